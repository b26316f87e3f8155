/-! choice of the class, by wip/tools -/
/-! choice of the class -/
def chz (nw : Int) (W B : Int → Int → Int) (rs : List (List Int)) (ru P : Int → Int) (b : Int) : Int := if 0 ≤ ru b ∧ ru b < (rs.length : Int) then (cst (wof W P b (rl9 (rs.getD (ru b).toNat [])).2.2) (fl (mb nw W B b) 99)).1 else 99
def chP (nw : Int) (W B : Int → Int → Int) (rs : List (List Int)) (ru : Int → Int) : Nat → Int → Int
  | 0 => fun _ => 0
  | n + 1 => usz (chP nw W B rs ru n) n (chz nw W B rs ru (chP nw W B rs ru n) n)
def chR (nw : Int) (W B : Int → Int → Int) (rs : List (List Int)) (ru : Int → Int) : Nat → Int
  | 0 => 0
  | n + 1 => chR nw W B rs ru n * 100 + chz nw W B rs ru (chP nw W B rs ru n) n
def sChoice (nw nb : Int) (W B : Int → Int → Int) (rs : List (List Int)) (ru : Int → Int) : Int := if 0 < nb then chR nw W B rs ru nb.toNat else -1
theorem cst_r {nw : Int} {W B : Int → Int → Int} {b : Int} (g : Int → Int) : 0 ≤ (cst g (fl (mb nw W B b) 99)).1 ∧ (cst g (fl (mb nw W B b) 99)).1 ≤ 99 := cst_m g (fun x => 0 ≤ x ∧ x ≤ 99) (by omega) _ _ (by show (0 : Int) ≤ 99 ∧ (99 : Int) ≤ 99; omega) (fun x hx => by have := ((fl_mem 99).mp hx).1; omega)
theorem chz_r {nw : Int} {W B : Int → Int → Int} {rs : List (List Int)} {ru P : Int → Int} {b : Int} : 0 ≤ chz nw W B rs ru P b ∧ chz nw W B rs ru P b ≤ 99 := by
  unfold chz
  split
  · exact cst_r _
  · omega
theorem chP_r {nw : Int} {W B : Int → Int → Int} {rs : List (List Int)} {ru : Int → Int} : ∀ (n : Nat) (c : Int), 0 ≤ chP nw W B rs ru n c ∧ chP nw W B rs ru n c ≤ 99
  | 0, c => by show (0 : Int) ≤ 0 ∧ (0 : Int) ≤ 99; omega
  | n + 1, c => by
    show 0 ≤ usz (chP nw W B rs ru n) n (chz nw W B rs ru (chP nw W B rs ru n) n) c ∧ usz (chP nw W B rs ru n) n (chz nw W B rs ru (chP nw W B rs ru n) n) c ≤ 99
    by_cases e : c = n
    · rw [e, usz_s]; exact chz_r
    · rw [usz_n e]; exact chP_r n c
theorem chR_r {nw : Int} {W B : Int → Int → Int} {rs : List (List Int)} {ru : Int → Int} : ∀ (n : Nat), 0 ≤ chR nw W B rs ru n ∧ (n = 0 → chR nw W B rs ru n ≤ 0) ∧ (n = 1 → chR nw W B rs ru n ≤ 99) ∧ (n = 2 → chR nw W B rs ru n ≤ 9999) ∧ (n = 3 → chR nw W B rs ru n ≤ 999999)
  | 0 => by show (0 : Int) ≤ 0 ∧ (_ → (0 : Int) ≤ 0) ∧ (_ → (0 : Int) ≤ 99) ∧ (_ → (0 : Int) ≤ 9999) ∧ (_ → (0 : Int) ≤ 999999); omega
  | n + 1 => by
    have h1 := chR_r (nw := nw) (W := W) (B := B) (rs := rs) (ru := ru) n
    have h2 := chz_r (nw := nw) (W := W) (B := B) (rs := rs) (ru := ru) (P := chP nw W B rs ru n) (b := n)
    show 0 ≤ chR nw W B rs ru n * 100 + chz nw W B rs ru (chP nw W B rs ru n) n ∧ (_ → chR nw W B rs ru n * 100 + chz nw W B rs ru (chP nw W B rs ru n) n ≤ _) ∧ (_ → chR nw W B rs ru n * 100 + chz nw W B rs ru (chP nw W B rs ru n) n ≤ _) ∧ (_ → chR nw W B rs ru n * 100 + chz nw W B rs ru (chP nw W B rs ru n) n ≤ _) ∧ (_ → chR nw W B rs ru n * 100 + chz nw W B rs ru (chP nw W B rs ru n) n ≤ _)
    omega
/-- all rules, each in three cells of its own -/
def RuX (rs : List (List Int)) (J : Nat → Nat) (rc : Int) (rl : Nat → Option Nat) (oc : Nat) (tl : List PO) : Prop := rc = (rs.length : Int) ∧ rs.length ≤ 4 ∧ ∀ k, k < rs.length → rl k = some (J k + 118) ∧ RuC tl (J k) (rl9 (rs.getD k [])).2.2 ∧ (J k + 118 ≠ oc ∧ J k + 119 ≠ oc ∧ J k + 120 ≠ oc) ∧ (∀ k', k' < k → J k' + 3 ≤ J k) ∧ RdOK (rs.getD k [])
theorem RuC.mv {tl tl' : List PO} {j : Nat} {cs : List Int} (h : RuC tl j cs) (hl : tl.length ≤ tl'.length) (e0 : tl'[j]? = tl[j]?) (e1 : tl'[j + 1]? = tl[j + 1]?) (e2 : tl'[j + 2]? = tl[j + 2]?) : RuC tl' j cs := by
  obtain ⟨stk, top, f, h1, h2, h3, h4, h5⟩ := h
  exact ⟨stk, top, f, by omega, e0.trans h2, e1.trans h3, e2.trans h4, h5⟩
/-- what is done to cells of rules alone -/
def TlS (rs : List (List Int)) (J : Nat → Nat) (tl tl' : List PO) : Prop := tl'.length = tl.length ∧ ∀ k, (∀ i, i < rs.length → k ≠ J i ∧ k ≠ J i + 1) → tl'[k]? = tl[k]?
theorem TlS.rf {rs : List (List Int)} {J : Nat → Nat} {tl : List PO} : TlS rs J tl tl := ⟨rfl, fun _ _ => rfl⟩
theorem TlS.tr {rs : List (List Int)} {J : Nat → Nat} {t1 t2 t3 : List PO} (h1 : TlS rs J t1 t2) (h2 : TlS rs J t2 t3) : TlS rs J t1 t3 := ⟨h2.1.trans h1.1, fun k hk => (h2.2 k hk).trans (h1.2 k hk)⟩
theorem RuX.up {rs : List (List Int)} {J : Nat → Nat} {rc : Int} {rl : Nat → Option Nat} {oc : Nat} {tl tl' : List PO} (h : RuX rs J rc rl oc tl) {i : Nat} (hi : i < rs.length) (hT : TlR (J i) (rl9 (rs.getD i [])).2.2 tl tl') : RuX rs J rc rl oc tl' ∧ TlS rs J tl tl' := by
  obtain ⟨h1, h2, h3⟩ := h
  obtain ⟨t1, t2, t4⟩ := hT
  refine ⟨⟨h1, h2, fun k hk => ?_⟩, t1, fun k hk => t2 k (hk i hi).1 (hk i hi).2⟩
  obtain ⟨k1, k2, k3, k4, k5⟩ := h3 k hk
  obtain ⟨-, -, -, i4, -⟩ := h3 i hi
  refine ⟨k1, ?_, k3, k4, k5⟩
  by_cases e : k = i
  · subst e; exact t4
  · rcases (show k < i ∨ i < k by omega) with z | z
    · have := i4 k z
      exact k2.mv (by omega) (t2 _ (by omega) (by omega)) (t2 _ (by omega) (by omega)) (t2 _ (by omega) (by omega))
    · have := k4 i z
      exact k2.mv (by omega) (t2 _ (by omega) (by omega)) (t2 _ (by omega) (by omega)) (t2 _ (by omega) (by omega))
theorem FrX.a79 {sc : Nat → Int} {ar ar' : Nat → Int → Int} {nw nb : Int} {W B : Int → Int → Int} (h : FrX (sc 303) (sc 304) (ar 5) (ar 6) (ar 7) (ar 8) (ar 10) (ar 11) (ar 12) nw nb W B) (ha : Same [78, 79] ar ar') : FrX (sc 303) (sc 304) (ar' 5) (ar' 6) (ar' 7) (ar' 8) (ar' 10) (ar' 11) (ar' 12) nw nb W B := by
  rw [ha 5 rfl, ha 6 rfl, ha 7 rfl, ha 8 rfl, ha 10 rfl, ha 11 rfl, ha 12 rfl]
  exact h
theorem x_chosen_t {K : PK} {d : Nat} {sc : Nat → Int} {ar : Nat → Int → Int} {tx oc : Nat} {rl : Nat → Option Nat} {ou : Nat → Int64} {tl : List PO} {q : Nat × Nat} {nw nb : Int} {W B : Int → Int → Int} (hF : FrOK nw nb W B) (hX : FrX (sc 303) (sc 304) (ar 5) (ar 6) (ar 7) (ar 8) (ar 10) (ar 11) (ar 12) nw nb W B) {P : Int → Int} {b z : Int} (hb : 0 ≤ b ∧ b < nb) (hpu : ∀ c, 0 ≤ c → c < b → ar 78 c = P c ∧ 0 ≤ P c ∧ P c ≤ 99) (hru : ar 33 b = z) (hz : -1 ≤ z ∧ z ≤ 3) (h5 : 0 ≤ sc 5 ∧ sc 5 ≤ 4) (hc : 0 ≤ z ∧ z < sc 5) {j : Nat} {tp : List Int} (hrl : rl z.toNat = some (j + 118)) (hR : RdOK tp) (hC : RuC tl j (rl9 tp).2.2) : CQ K (d + 5) 146 [.ref 0, .int (iI b)] (HW sc ar tx oc rl ou tl, q) (fun r g' => r = some (.int (iI (cst (wof W P b (rl9 tp).2.2) (fl (mb nw W B b) 99)).1)) ∧ ∃ ar' tl', g' = (HW sc ar' tx oc rl ou tl', q) ∧ Same [79] ar ar' ∧ TlR j (rl9 tp).2.2 tl tl') := by
  have hn := hF.1
  have hm1 := hX.1
  have hm2 := hX.2.1
  refine CQ.of (own := 10) (n := 8) (ini := false) (rt := (some .int)) (cd := cd146) (by decide +kernel) rfl (by decide +kernel) rfl (Nat.le_of_ble_eq_true rfl) ?_
  refine RQ.seg 4 (pc' := 8) (L' := [some (.ref 0), some (.int (iI b)), none, none, none, none, none, none]) (st' := [.int (iI b), .ref 33]) (g1 := (HW sc ar tx oc rl ou tl, q)) rfl ?_
  refine RQ.ialdv (z := b) (v := z) rfl rfl rfl (by omega) (by decide) hru ?_
  refine RQ.seg 2 (pc' := 11) (L' := [some (.ref 0), some (.int (iI b)), some (.int (iI z)), none, none, none, none, none]) (st' := [.int (iI z)]) (g1 := (HW sc ar tx oc rl ou tl, q)) rfl ?_
  refine RQ.if1 (a := z) rfl rfl rfl (by omega) (fun (q : z < 0) => absurd q (show ¬ z < 0 from by omega)) (fun _ => ?_)
  refine RQ.seg 3 (pc' := 19) (L' := [some (.ref 0), some (.int (iI b)), some (.int (iI z)), none, none, none, none, none]) (st' := [.int (iI (sc 5)), .int (iI z)]) (g1 := (HW sc ar tx oc rl ou tl, q)) rfl ?_
  refine RQ.if2 (a := z) (b := (sc 5)) rfl rfl rfl rfl (by omega) (by omega) (fun (q : sc 5 ≤ z) => absurd q (show ¬ sc 5 ≤ z from by omega)) (fun _ => ?_)
  refine RQ.seg 3 (pc' := 27) (L' := [some (.ref 0), some (.int (iI b)), some (.int (iI z)), none, none, none, none, none]) (st' := [.int (iI z), .ref 30]) (g1 := (HW sc ar tx oc rl ou tl, q)) rfl ?_
  refine RQ.aaldr (z := z) rfl rfl rfl (by omega) (by decide) hrl ?_
  refine RQ.seg 10 (pc' := 50) (L' := [some (.ref 0), some (.int (iI b)), some (.int (iI z)), some (.ref (j + 118)), some (.int (iI 99)), some (.int (iI 0)), some (.int (iI 0)), none]) (st' := []) (g1 := (HW sc ar tx oc rl ou tl, q)) rfl ?_
  refine x_ch_l hF hb hR 99 0 ar tl 99 0 _ (by omega) hX hpu hC rfl (by omega) (fun ar' tl' h1 h2 => ⟨rfl, ar', tl', rfl, h1, h2⟩)
theorem x_chosen_f {K : PK} {d : Nat} {sc : Nat → Int} {ar : Nat → Int → Int} {tx oc : Nat} {rl : Nat → Option Nat} {ou : Nat → Int64} {tl : List PO} {q : Nat × Nat} {nw nb : Int} {W B : Int → Int → Int} (hF : FrOK nw nb W B) (hX : FrX (sc 303) (sc 304) (ar 5) (ar 6) (ar 7) (ar 8) (ar 10) (ar 11) (ar 12) nw nb W B) {P : Int → Int} {b z : Int} (hb : 0 ≤ b ∧ b < nb) (hpu : ∀ c, 0 ≤ c → c < b → ar 78 c = P c ∧ 0 ≤ P c ∧ P c ≤ 99) (hru : ar 33 b = z) (hz : -1 ≤ z ∧ z ≤ 3) (h5 : 0 ≤ sc 5 ∧ sc 5 ≤ 4) (hc : ¬ (0 ≤ z ∧ z < sc 5)) : CallR K (d + 5) 146 [.ref 0, .int (iI b)] (HW sc ar tx oc rl ou tl, q) (some (.int (iI 99))) (HW sc ar tx oc rl ou tl, q) := by
  apply CQ.x
  have hn := hF.1
  have hm1 := hX.1
  have hm2 := hX.2.1
  refine CQ.of (own := 10) (n := 8) (ini := false) (rt := (some .int)) (cd := cd146) (by decide +kernel) rfl (by decide +kernel) rfl (Nat.le_of_ble_eq_true rfl) ?_
  refine RQ.seg 4 (pc' := 8) (L' := [some (.ref 0), some (.int (iI b)), none, none, none, none, none, none]) (st' := [.int (iI b), .ref 33]) (g1 := (HW sc ar tx oc rl ou tl, q)) rfl ?_
  refine RQ.ialdv (z := b) (v := z) rfl rfl rfl (by omega) (by decide) hru ?_
  refine RQ.seg 2 (pc' := 11) (L' := [some (.ref 0), some (.int (iI b)), some (.int (iI z)), none, none, none, none, none]) (st' := [.int (iI z)]) (g1 := (HW sc ar tx oc rl ou tl, q)) rfl ?_
  refine RQ.if1 (a := z) rfl rfl rfl (by omega) (fun (h1 : z < 0) => ?_) (fun (h1 : ¬ z < 0) => ?_)
  · skip
    refine RQ.seg 5 (pc' := 39) (L' := [some (.ref 0), some (.int (iI b)), some (.int (iI z)), some (.null), none, none, none, none]) (st' := [.int (iI 99)]) (g1 := (HW sc ar tx oc rl ou tl, q)) rfl ?_
    refine RQ.ret rfl rfl ?_
    first | exact ⟨rfl, rfl⟩ | (exfalso; omega)
  · skip
    refine RQ.seg 3 (pc' := 19) (L' := [some (.ref 0), some (.int (iI b)), some (.int (iI z)), none, none, none, none, none]) (st' := [.int (iI (sc 5)), .int (iI z)]) (g1 := (HW sc ar tx oc rl ou tl, q)) rfl ?_
    refine RQ.if2 (a := z) (b := (sc 5)) rfl rfl rfl rfl (by omega) (by omega) (fun (h2 : sc 5 ≤ z) => ?_) (fun (h2 : ¬ sc 5 ≤ z) => ?_)
    · skip
      refine RQ.seg 5 (pc' := 39) (L' := [some (.ref 0), some (.int (iI b)), some (.int (iI z)), some (.null), none, none, none, none]) (st' := [.int (iI 99)]) (g1 := (HW sc ar tx oc rl ou tl, q)) rfl ?_
      refine RQ.ret rfl rfl ?_
      first | exact ⟨rfl, rfl⟩ | (exfalso; omega)
    · skip
      refine RQ.seg 3 (pc' := 27) (L' := [some (.ref 0), some (.int (iI b)), some (.int (iI z)), none, none, none, none, none]) (st' := [.int (iI z), .ref 30]) (g1 := (HW sc ar tx oc rl ou tl, q)) rfl ?_
      exfalso; omega
theorem x_co_l {K : PK} {d : Nat} {sc : Nat → Int} {tx oc : Nat} {rl : Nat → Option Nat} {ou : Nat → Int64} {q : Nat × Nat} {Q : Option Value → PG → Prop} {nw nb : Int} {W B : Int → Int → Int} (hF : FrOK nw nb W B) {rs : List (List Int)} {ru : Int → Int} {J : Nat → Nat} : ∀ (m n : Nat) (ar : Nat → Int → Int) (tl : List PO) (hm : n + m = nb.toNat) (hX : FrX (sc 303) (sc 304) (ar 5) (ar 6) (ar 7) (ar 8) (ar 10) (ar 11) (ar 12) nw nb W B) (hru : ∀ b, 0 ≤ b → b < nb → ar 33 b = ru b ∧ -1 ≤ ru b ∧ ru b ≤ 3) (hJ : RuX rs J (sc 5) rl oc tl) (hpu : ∀ c, 0 ≤ c → c < (n : Int) → ar 78 c = chP nw W B rs ru n c) (hk : ∀ ar' tl', Same [78, 79] ar ar' → RuX rs J (sc 5) rl oc tl' → TlS rs J tl tl' → Q (some (.int (iI (chR nw W B rs ru nb.toNat)))) (HW sc ar' tx oc rl ou tl', q)), RQ K (d + 6) 10 false (some .int) cd124 16 [some (.ref 0), some (.int (iI (chR nw W B rs ru n))), some (.int (iI (n : Int)))] [] (HW sc ar tx oc rl ou tl, q) Q
  | 0, n, ar, tl, hm, hX, hru, hJ, hpu, hk => by
    have hn := hF.1
    have hm1 := hX.1
    have hm2 := hX.2.1
    have hcr := chR_r (nw := nw) (W := W) (B := B) (rs := rs) (ru := ru) n
    refine RQ.seg 4 (pc' := 24) (L' := [some (.ref 0), some (.int (iI (chR nw W B rs ru n))), some (.int (iI (n : Int)))]) (st' := [.int (iI (sc 304)), .int (iI (n : Int))]) (g1 := (HW sc ar tx oc rl ou tl, q)) rfl ?_
    refine RQ.if2 (a := (n : Int)) (b := (sc 304)) rfl rfl rfl rfl (by omega) (by omega) (fun _ => ?_) (fun (q : ¬ sc 304 ≤ (n : Int)) => absurd (show sc 304 ≤ (n : Int) from by omega) q)
    refine RQ.seg 1 (pc' := 57) (L' := [some (.ref 0), some (.int (iI (chR nw W B rs ru n))), some (.int (iI (n : Int)))]) (st' := [.int (iI (chR nw W B rs ru n))]) (g1 := (HW sc ar tx oc rl ou tl, q)) rfl ?_
    refine RQ.ret rfl rfl ?_
    obtain rfl : n = nb.toNat := by omega
    exact hk ar tl Same.rf hJ TlS.rf
  | m + 1, n, ar, tl, hm, hX, hru, hJ, hpu, hk => by
    have hn := hF.1
    have hm1 := hX.1
    have hm2 := hX.2.1
    have hcr := chR_r (nw := nw) (W := W) (B := B) (rs := rs) (ru := ru) n
    have hzr := chz_r (nw := nw) (W := W) (B := B) (rs := rs) (ru := ru) (P := chP nw W B rs ru n) (b := (n : Int))
    obtain ⟨r1, r2, r3⟩ := hru (n : Int) (by omega) (by omega)
    have h5 := hJ.1
    have h54 := hJ.2.1
    have hpu2 : ∀ c, 0 ≤ c → c < (n : Int) → ar 78 c = chP nw W B rs ru n c ∧ 0 ≤ chP nw W B rs ru n c ∧ chP nw W B rs ru n c ≤ 99 := fun c c0 c1 => ⟨hpu c c0 c1, chP_r n c⟩
    refine RQ.seg 4 (pc' := 24) (L' := [some (.ref 0), some (.int (iI (chR nw W B rs ru n))), some (.int (iI (n : Int)))]) (st' := [.int (iI (sc 304)), .int (iI (n : Int))]) (g1 := (HW sc ar tx oc rl ou tl, q)) rfl ?_
    refine RQ.if2 (a := (n : Int)) (b := (sc 304)) rfl rfl rfl rfl (by omega) (by omega) (fun (q : sc 304 ≤ (n : Int)) => absurd q (show ¬ sc 304 ≤ (n : Int) from by omega)) (fun _ => ?_)
    refine RQ.seg 5 (pc' := 34) (L' := [some (.ref 0), some (.int (iI (chR nw W B rs ru n))), some (.int (iI (n : Int)))]) (st' := [.int (iI (n : Int)), .ref 0, .int (iI (n : Int)), .ref 78]) (g1 := (HW sc ar tx oc rl ou tl, q)) rfl ?_
    have key : CQ K (d + 6) 146 [.ref 0, .int (iI (n : Int))] (HW sc ar tx oc rl ou tl, q) (fun r g' => r = some (.int (iI (chz nw W B rs ru (chP nw W B rs ru n) (n : Int)))) ∧ ∃ ar' tl', g' = (HW sc ar' tx oc rl ou tl', q) ∧ Same [79] ar ar' ∧ RuX rs J (sc 5) rl oc tl' ∧ TlS rs J tl tl') := by
      rcases Decidable.em (0 ≤ ru (n : Int) ∧ ru (n : Int) < (rs.length : Int)) with hc | hc
      · obtain ⟨j1, j2, j3, j4, j5⟩ := hJ.2.2 (ru (n : Int)).toNat (by omega)
        obtain ⟨r, g', k1, k2, ar', tl', k3, k4, k5⟩ := CQ.up (x_chosen_t (K := K) (d := 0) (tx := tx) (oc := oc) (ou := ou) (q := q) (P := chP nw W B rs ru n) hF hX (b := (n : Int)) (by omega) hpu2 r1 (by omega) (by omega) (by omega) j1 j5 j2) (show 0 + 5 ≤ d + 6 by omega)
        obtain ⟨u1, u2⟩ := hJ.up (by omega) k5
        exact ⟨r, g', k1, k2.trans (by rw [show chz nw W B rs ru (chP nw W B rs ru n) (n : Int) = (cst (wof W (chP nw W B rs ru n) (n : Int) (rl9 (rs.getD (ru (n : Int)).toNat [])).2.2) (fl (mb nw W B (n : Int)) 99)).1 from if_pos hc]), ar', tl', k3, k4, u1, u2⟩
      · refine ⟨_, _, CallR.up (x_chosen_f (K := K) (d := 0) (P := chP nw W B rs ru n) hF hX (b := (n : Int)) (by omega) hpu2 r1 (by omega) (by omega) (by omega)) (by omega), ?_, ar, tl, rfl, Same.rf, hJ, TlS.rf⟩
        rw [show chz nw W B rs ru (chP nw W B rs ru n) (n : Int) = 99 from if_neg hc]
    refine RQ.callQ rfl rfl key (fun rv9 g9 hc9 => ?_)
    obtain ⟨rfl, ar1, tl1, rfl, ha1, hJ1, hT1⟩ := hc9
    refine RQ.iast (z := (n : Int)) (v := (chz nw W B rs ru (chP nw W B rs ru n) (n : Int))) (g1 := (HW sc (usc ar1 78 (usz (ar1 78) (n : Int) (chz nw W B rs ru (chP nw W B rs ru n) (n : Int)))) tx oc rl ou tl1, q)) rfl rfl rfl rfl (by omega) (by decide) (HWa_78 rfl) ?_
    refine RQ.seg 6 (pc' := 47) (L' := [some (.ref 0), some (.int (iI (chR nw W B rs ru n))), some (.int (iI (n : Int)))]) (st' := [.int (iI (n : Int)), .ref 78, .int ((iI (chR nw W B rs ru n)) * (iI 100))]) (g1 := (HW sc (usc ar1 78 (usz (ar1 78) (n : Int) (chz nw W B rs ru (chP nw W B rs ru n) (n : Int)))) tx oc rl ou tl1, q)) rfl ?_
    refine RQ.ialdv (z := (n : Int)) (v := (chz nw W B rs ru (chP nw W B rs ru n) (n : Int))) rfl rfl rfl (by omega) (by decide) (show (usz (ar1 78) (n : Int) (chz nw W B rs ru (chP nw W B rs ru n) (n : Int))) (n : Int) = chz nw W B rs ru (chP nw W B rs ru n) (n : Int) by rw [usz_s]) ?_
    refine RQ.seg 4 (pc' := 16) (L' := [some (.ref 0), some (.int (((iI (chR nw W B rs ru n)) * (iI 100)) + (iI (chz nw W B rs ru (chP nw W B rs ru n) (n : Int))))), some (.int ((iI (n : Int)) + (iI 1)))]) (st' := []) (g1 := (HW sc (usc ar1 78 (usz (ar1 78) (n : Int) (chz nw W B rs ru (chP nw W B rs ru n) (n : Int)))) tx oc rl ou tl1, q)) rfl ?_
    refine RQ.to (L' := [some (.ref 0), some (.int (iI ((chR nw W B rs ru n) * 100 + (chz nw W B rs ru (chP nw W B rs ru n) (n : Int))))), some (.int (iI ((n : Int) + 1)))]) (st' := []) (by simp only [iI_add, iI_sub, iI_mul, iI_neg]) rfl ?_
    refine x_co_l hF m (n + 1) (usc ar1 78 (usz (ar1 78) (n : Int) (chz nw W B rs ru (chP nw W B rs ru n) (n : Int)))) tl1 (by omega) ?_ ?_ hJ1 ?_ (fun ar' tl' h1 h2 h3 => hk ar' tl' (Same.tr (Same.w (l' := [78, 79]) rfl ha1) (Same.tr (Same.us rfl Same.rf) h1)) h2 (hT1.tr h3))
    · exact FrX.a79 hX (Same.tr (Same.w rfl ha1) (Same.us rfl Same.rf))
    · intro b b0 b1; rw [show (usc ar1 78 (usz (ar1 78) (n : Int) (chz nw W B rs ru (chP nw W B rs ru n) (n : Int)))) 33 = ar 33 from ha1 33 rfl]; exact hru b b0 b1
    · intro c c0 c1
      show usz (ar1 78) (n : Int) (chz nw W B rs ru (chP nw W B rs ru n) (n : Int)) c = usz (chP nw W B rs ru n) (n : Int) (chz nw W B rs ru (chP nw W B rs ru n) (n : Int)) c
      by_cases e : c = (n : Int)
      · rw [e, usz_s, usz_s]
      · rw [usz_n e, usz_n e, ha1 78 rfl]; exact hpu c c0 (by omega)
theorem x_choice {K : PK} {d : Nat} {sc : Nat → Int} {ar : Nat → Int → Int} {tx oc : Nat} {rl : Nat → Option Nat} {ou : Nat → Int64} {tl : List PO} {q : Nat × Nat} {nw nb : Int} {W B : Int → Int → Int} (hF : FrOK nw nb W B) (hX : FrX (sc 303) (sc 304) (ar 5) (ar 6) (ar 7) (ar 8) (ar 10) (ar 11) (ar 12) nw nb W B) {rs : List (List Int)} {ru : Int → Int} {J : Nat → Nat} (hru : ∀ b, 0 ≤ b → b < nb → ar 33 b = ru b ∧ -1 ≤ ru b ∧ ru b ≤ 3) (hJ : RuX rs J (sc 5) rl oc tl) : CQ K (d + 7) 124 [.ref 0] (HW sc ar tx oc rl ou tl, q) (fun r g' => r = some (.int (iI (sChoice nw nb W B rs ru))) ∧ ∃ ar' tl', g' = (HW sc ar' tx oc rl ou tl', q) ∧ Same [78, 79] ar ar' ∧ RuX rs J (sc 5) rl oc tl' ∧ TlS rs J tl tl') := by
  have hn := hF.1
  have hm1 := hX.1
  have hm2 := hX.2.1
  refine CQ.of (own := 10) (n := 3) (ini := false) (rt := (some .int)) (cd := cd124) (by decide +kernel) rfl (by decide +kernel) rfl (Nat.le_of_ble_eq_true rfl) ?_
  refine RQ.seg 2 (pc' := 4) (L' := [some (.ref 0), none, none]) (st' := [.ref 3]) (g1 := (HW sc ar tx oc rl ou tl, q)) rfl ?_
  rcases Decidable.em (0 < nb) with hP1 | hP1
  · skip
    refine RQ.call rfl rfl (CallR.up (d := 1) (x_standsN_t (d := 0) hX hF hP1) (by omega)) ?_
    refine RQ.seg 5 (pc' := 16) (L' := [some (.ref 0), some (.int (iI 0)), some (.int (iI 0))]) (st' := []) (g1 := (HW sc ar tx oc rl ou tl, q)) rfl ?_
    refine x_co_l hF nb.toNat 0 ar tl (by omega) hX hru hJ (fun c c0 c1 => absurd c1 (by omega)) (fun ar' tl' h1 h2 h3 => ⟨by rw [show sChoice nw nb W B rs ru = chR nw W B rs ru nb.toNat from if_pos hP1], ar', tl', rfl, h1, h2, h3⟩)
  · skip
    refine RQ.call rfl rfl (CallR.up (d := 1) (x_standsN_f (d := 0) hX hF hP1) (by omega)) ?_
    refine RQ.seg 2 (pc' := 11) (L' := [some (.ref 0), none, none]) (st' := [.int (iI (-1))]) (g1 := (HW sc ar tx oc rl ou tl, q)) rfl ?_
    refine RQ.ret rfl rfl ?_
    exact ⟨by rw [show sChoice nw nb W B rs ru = -1 from if_neg hP1], ar, tl, rfl, Same.rf, hJ, TlS.rf⟩
