/-! nights by draws, by wip/tools -/
/-! nights by draws -/
def nxi : Nat → Int64 → Int64
  | 0, x => x
  | n + 1, x => nxs (nxi n x)
def dpt (nw : Int) (W B : Int → Int → Int) (b v : Int) : Int := if v / 4 < 6 ∧ v % 4 < nw ∧ rch W (B b 1) (v / 4) (v % 4) then 10 * (v / 4) + v % 4 else 99
def dps (nw : Int) (W B : Int → Int → Int) (x : Int64) : Int → Int := fun b => dpt nw W B b (drw (nxi (b.toNat + 1) x))
def dnt (nw nb : Int) (W B : Int → Int → Int) (law : Int → Int) : Nat → Int64 → SD → SD
  | 0, _, D => D
  | n + 1, x, D => dnt nw nb W B law n (nxi nb.toNat x) (nst nb (sS (svn nb W B (dps nw W B x))) (gnr nw nb W B law (dps nw W B x)) D)
theorem dpt_may {nw : Int} {W B : Int → Int → Int} {b v : Int} (hv : 0 ≤ v ∧ v < 28) : may nw W B b (dpt nw W B b v) := by
  unfold dpt
  by_cases h : v / 4 < 6 ∧ v % 4 < nw ∧ rch W (B b 1) (v / 4) (v % 4)
  · rw [if_pos h]
    refine Or.inr ⟨by omega, by omega, by omega, ?_⟩
    rw [show (10 * (v / 4) + v % 4) / 10 = v / 4 by omega, show (10 * (v / 4) + v % 4) % 10 = v % 4 by omega]
    exact h.2.2
  · rw [if_neg h]; exact Or.inl rfl
theorem dpt_t {nw : Int} {W B : Int → Int → Int} {b v : Int} (hv : 0 ≤ v ∧ v < 28) (h4 : v / 4 < 6) (hw : v % 4 < nw) (h : may nw W B b (10 * (v / 4) + v % 4)) : dpt nw W B b v = 10 * (v / 4) + v % 4 := by
  unfold dpt
  refine if_pos ⟨h4, hw, ?_⟩
  rcases h with z | ⟨_, _, _, z⟩
  · omega
  · rw [show (10 * (v / 4) + v % 4) / 10 = v / 4 by omega, show (10 * (v / 4) + v % 4) % 10 = v % 4 by omega] at z
    exact z
theorem dpt_f {nw : Int} {W B : Int → Int → Int} {b v : Int} (hv : 0 ≤ v ∧ v < 28) (h : ¬ may nw W B b (10 * (v / 4) + v % 4)) : dpt nw W B b v = 99 := by
  unfold dpt
  refine if_neg (fun z => h (Or.inr ⟨by omega, by omega, by omega, ?_⟩))
  rw [show (10 * (v / 4) + v % 4) / 10 = v / 4 by omega, show (10 * (v / 4) + v % 4) % 10 = v % 4 by omega]
  exact z.2.2
theorem dps_ok {nw nb : Int} {W B : Int → Int → Int} (x : Int64) : PtOK nw nb W B (dps nw W B x) := fun _ _ _ => dpt_may (drw_r _)
theorem dps_n {nw : Int} {W B : Int → Int → Int} (x : Int64) (n : Nat) : dps nw W B x (n : Int) = dpt nw W B n (drw (nxs (nxi n x))) := by
  unfold dps
  rw [Int.toNat_natCast]
  rfl
theorem dps_up {nw : Int} {W B : Int → Int → Int} {x : Int64} {n : Nat} {f : Int → Int} {v : Int} (hf : ∀ c, 0 ≤ c → c < (n : Int) → f c = dps nw W B x c) (hv : v = dpt nw W B n (drw (nxs (nxi n x)))) : ∀ c, 0 ≤ c → c < ((n + 1 : Nat) : Int) → usz f (n : Int) v c = dps nw W B x c := by
  intro c h0 h1
  by_cases e : c = (n : Int)
  · subst e; rw [usz_s, dps_n]; exact hv
  · rw [usz_n e]; exact hf c h0 (by omega)
theorem NtOK.dn {nb : Int} {D : SD} (h : NtOK nb D) {m : Nat} (hm : dN D + (m + 1 : Nat) < 999999) (s g : Int → Int) : NtOK nb (nst nb s g D) ∧ dN (nst nb s g D) + m < 999999 := by
  refine ⟨h.st (by omega) s g, ?_⟩
  show dN D + 1 + m < 999999
  omega
theorem x_drawnPut {K : PK} {d : Nat} {sc : Nat → Int} {ar : Nat → Int → Int} {tx oc : Nat} {rl : Nat → Option Nat} {ou : Nat → Int64} {tl : List PO} {q : Nat × Nat} {b v : Int} {nw nb : Int} {W B : Int → Int → Int} (hF : FrOK nw nb W B) (hX : FrX (sc 303) (sc 304) (ar 5) (ar 6) (ar 7) (ar 8) (ar 10) (ar 11) (ar 12) nw nb W B) (hb : 0 ≤ b ∧ b < nb) (hv : 0 ≤ v ∧ v < 28) : CallR K (d + 3) 145 [.ref 0, .int (iI b), .int (iI v)] (HW sc ar tx oc rl ou tl, q) (some (.int (iI (dpt nw W B b v)))) (HW sc ar tx oc rl ou tl, q) := by
  apply CQ.x
  have hn := hF.1
  have hm1 := hX.1
  have hm2 := hX.2.1
  refine CQ.of (own := 10) (n := 6) (ini := false) (rt := (some .int)) (cd := cd145) (by decide +kernel) rfl (by decide +kernel) rfl (Nat.le_of_ble_eq_true rfl) ?_
  refine RQ.seg 2 (pc' := 2) (L' := [some (.ref 0), some (.int (iI b)), some (.int (iI v)), none, none, none]) (st' := [.int (iI 4), .int (iI v)]) (g1 := (HW sc ar tx oc rl ou tl, q)) rfl ?_
  refine RQ.idiv (a := v) (b := 4) rfl rfl rfl (by omega) (by omega) ?_
  refine RQ.seg 3 (pc' := 6) (L' := [some (.ref 0), some (.int (iI b)), some (.int (iI v)), some (.int (iI (v / 4))), none, none]) (st' := [.int (iI 4), .int (iI v)]) (g1 := (HW sc ar tx oc rl ou tl, q)) rfl ?_
  refine RQ.irem (a := v) (b := 4) rfl rfl rfl (by omega) (by omega) ?_
  refine RQ.seg 3 (pc' := 12) (L' := [some (.ref 0), some (.int (iI b)), some (.int (iI v)), some (.int (iI (v / 4))), some (.int (iI (v % 4))), none]) (st' := [.int (iI 6), .int (iI (v / 4))]) (g1 := (HW sc ar tx oc rl ou tl, q)) rfl ?_
  refine RQ.if2 (a := (v / 4)) (b := 6) rfl rfl rfl rfl (by omega) (by omega) (fun (h1 : 6 ≤ v / 4) => ?_) (fun (h1 : ¬ 6 ≤ v / 4) => ?_)
  · skip
    refine RQ.seg 1 (pc' := 26) (L' := [some (.ref 0), some (.int (iI b)), some (.int (iI v)), some (.int (iI (v / 4))), some (.int (iI (v % 4))), none]) (st' := [.int (iI 99)]) (g1 := (HW sc ar tx oc rl ou tl, q)) rfl ?_
    refine RQ.ret rfl rfl ?_
    exact ⟨by rw [show dpt nw W B b v = 99 by first | exact dpt_f hv hmay | (unfold dpt; exact if_neg (fun z => by omega))], rfl⟩
  · skip
    refine RQ.seg 2 (pc' := 18) (L' := [some (.ref 0), some (.int (iI b)), some (.int (iI v)), some (.int (iI (v / 4))), some (.int (iI (v % 4))), none]) (st' := [.int (iI (v % 4)), .ref 0]) (g1 := (HW sc ar tx oc rl ou tl, q)) rfl ?_
    rcases Decidable.em (0 ≤ v % 4 ∧ v % 4 < nw) with h2 | h2
    · skip
      refine RQ.call rfl rfl (x_isWiN_t (by omega) hX hF h2) ?_
      refine RQ.seg 11 (pc' := 43) (L' := [some (.ref 0), some (.int (iI b)), some (.int (iI v)), some (.int (iI (v / 4))), some (.int (iI (v % 4))), some (.int (((iI 10) * (iI (v / 4))) + (iI (v % 4))))]) (st' := [.int (((iI 10) * (iI (v / 4))) + (iI (v % 4))), .int (iI b), .ref 3]) (g1 := (HW sc ar tx oc rl ou tl, q)) rfl ?_
      refine RQ.to (L' := [some (.ref 0), some (.int (iI b)), some (.int (iI v)), some (.int (iI (v / 4))), some (.int (iI (v % 4))), some (.int (iI (10 * (v / 4) + (v % 4))))]) (st' := [.int (iI (10 * (v / 4) + (v % 4))), .int (iI b), .ref 3]) (by simp only [iI_add, iI_sub, iI_mul, iI_neg]) (by simp only [iI_add, iI_sub, iI_mul, iI_neg]) ?_
      rcases Decidable.em (may nw W B b (10 * (v / 4) + (v % 4))) with hmay | hmay
      · skip
        refine RQ.call rfl rfl (x_may_t hF hX (by omega) (by omega) hmay) ?_
        refine RQ.seg 3 (pc' := 56) (L' := [some (.ref 0), some (.int (iI b)), some (.int (iI v)), some (.int (iI (v / 4))), some (.int (iI (v % 4))), some (.int (iI (10 * (v / 4) + (v % 4))))]) (st' := [.int (iI (10 * (v / 4) + (v % 4)))]) (g1 := (HW sc ar tx oc rl ou tl, q)) rfl ?_
        refine RQ.ret rfl rfl ?_
        exact ⟨by rw [dpt_t hv (by omega) (by omega) hmay], rfl⟩
      · skip
        refine RQ.call rfl rfl (x_may_f hF hX (by omega) (by omega) hmay) ?_
        refine RQ.seg 2 (pc' := 56) (L' := [some (.ref 0), some (.int (iI b)), some (.int (iI v)), some (.int (iI (v / 4))), some (.int (iI (v % 4))), some (.int (iI (10 * (v / 4) + (v % 4))))]) (st' := [.int (iI 99)]) (g1 := (HW sc ar tx oc rl ou tl, q)) rfl ?_
        refine RQ.ret rfl rfl ?_
        exact ⟨by rw [show dpt nw W B b v = 99 by first | exact dpt_f hv hmay | (unfold dpt; exact if_neg (fun z => by omega))], rfl⟩
    · skip
      refine RQ.call rfl rfl (x_isWiN_f (by omega) hX hF h2) ?_
      refine RQ.seg 2 (pc' := 26) (L' := [some (.ref 0), some (.int (iI b)), some (.int (iI v)), some (.int (iI (v / 4))), some (.int (iI (v % 4))), none]) (st' := [.int (iI 99)]) (g1 := (HW sc ar tx oc rl ou tl, q)) rfl ?_
      refine RQ.ret rfl rfl ?_
      exact ⟨by rw [show dpt nw W B b v = 99 by first | exact dpt_f hv hmay | (unfold dpt; exact if_neg (fun z => by omega))], rfl⟩
theorem x_dr_b {K : PK} {d : Nat} {sc : Nat → Int} {ar : Nat → Int → Int} {tx oc : Nat} {rl : Nat → Option Nat} {ou : Nat → Int64} {tl : List PO} {q : Nat × Nat} {Q : Option Value → PG → Prop} {k i : Int} {s x : Int64} {nw nb : Int} {W B : Int → Int → Int} (hF : FrOK nw nb W B) (hX : FrX (sc 303) (sc 304) (ar 5) (ar 6) (ar 7) (ar 8) (ar 10) (ar 11) (ar 12) nw nb W B) (hk : ∀ f' : Int → Int, (∀ c, 0 ≤ c → c < nb → f' c = dps nw W B x c) → RQ K (d + 5) 10 false (some .int) cd132 91 [some (.ref 0), some (.int (iI k)), some (.long s), none, some (.long (nxi nb.toNat x)), none, some (.int (iI i)), some (.int (iI nb))] [] (HW sc (usc ar 78 f') tx oc rl ou tl, q) Q) : ∀ (m n : Nat) (f : Int → Int) (hm : (n : Int) + m = nb) (hf : (∀ c, 0 ≤ c → c < (n : Int) → f c = dps nw W B x c)), RQ K (d + 5) 10 false (some .int) cd132 38 [some (.ref 0), some (.int (iI k)), some (.long s), none, some (.long (nxi n x)), none, some (.int (iI i)), some (.int (iI (n : Int)))] [] (HW sc (usc ar 78 f) tx oc rl ou tl, q) Q
  | 0, n, f, hm, hf => by
    have hn := hF.1
    have hm1 := hX.1
    have hm2 := hX.2.1
    obtain rfl : nb = (n : Int) := by omega
    rw [Int.toNat_natCast] at hk
    refine RQ.seg 4 (pc' := 47) (L' := [some (.ref 0), some (.int (iI k)), some (.long s), none, some (.long (nxi n x)), none, some (.int (iI i)), some (.int (iI (n : Int)))]) (st' := [.int (iI (sc 304)), .int (iI (n : Int))]) (g1 := (HW sc (usc ar 78 f) tx oc rl ou tl, q)) rfl ?_
    refine RQ.if2 (a := (n : Int)) (b := (sc 304)) rfl rfl rfl rfl (by omega) (by omega) (fun _ => ?_) (fun (q : ¬ sc 304 ≤ (n : Int)) => absurd (show sc 304 ≤ (n : Int) from by omega) q)
    exact hk f hf
  | m + 1, n, f, hm, hf => by
    have hn := hF.1
    have hm1 := hX.1
    have hm2 := hX.2.1
    have hdr := drw_r (nxs (nxi n x))
    refine RQ.seg 4 (pc' := 47) (L' := [some (.ref 0), some (.int (iI k)), some (.long s), none, some (.long (nxi n x)), none, some (.int (iI i)), some (.int (iI (n : Int)))]) (st' := [.int (iI (sc 304)), .int (iI (n : Int))]) (g1 := (HW sc (usc ar 78 f) tx oc rl ou tl, q)) rfl ?_
    refine RQ.if2 (a := (n : Int)) (b := (sc 304)) rfl rfl rfl rfl (by omega) (by omega) (fun (q : sc 304 ≤ (n : Int)) => absurd q (show ¬ sc 304 ≤ (n : Int) from by omega)) (fun _ => ?_)
    refine RQ.seg 15 (pc' := 79) (L' := [some (.ref 0), some (.int (iI k)), some (.long s), none, some (.long (nxs (nxi n x))), none, some (.int (iI i)), some (.int (iI (n : Int)))]) (st' := [.long (lL 28), .long (ush (nxs (nxi n x))), .int (iI (n : Int)), .ref 0, .int (iI (n : Int)), .ref 78]) (g1 := (HW sc (usc ar 78 f) tx oc rl ou tl, q)) rfl ?_
    refine RQ.lremd (x := (nxs (nxi n x))) rfl ?_
    refine RQ.l2id (x := (nxs (nxi n x))) rfl ?_
    refine RQ.call rfl rfl (CallR.up (d := 3) (x_drawnPut (d := 0) (sc := sc) (ar := usc ar 78 f) (b := (n : Int)) hF hX (by omega) hdr) (by omega)) ?_
    refine RQ.iast (z := (n : Int)) (v := (dpt nw W B (n : Int) (drw (nxs (nxi n x))))) (g1 := (HW sc (usc ar 78 (usz f (n : Int) (dpt nw W B (n : Int) (drw (nxs (nxi n x)))))) tx oc rl ou tl, q)) rfl rfl rfl rfl (by omega) (by decide) (HWa_78 (by funext j; unfold usc; cases hb : Nat.beq j 78 <;> first | rfl | (rw [Nat.eq_of_beq_eq_true hb]; rfl))) ?_
    refine RQ.seg 2 (pc' := 38) (L' := [some (.ref 0), some (.int (iI k)), some (.long s), none, some (.long (nxs (nxi n x))), none, some (.int (iI i)), some (.int ((iI (n : Int)) + (iI 1)))]) (st' := []) (g1 := (HW sc (usc ar 78 (usz f (n : Int) (dpt nw W B (n : Int) (drw (nxs (nxi n x)))))) tx oc rl ou tl, q)) rfl ?_
    refine RQ.to (L' := [some (.ref 0), some (.int (iI k)), some (.long s), none, some (.long (nxs (nxi n x))), none, some (.int (iI i)), some (.int (iI ((n : Int) + 1)))]) (st' := []) (by simp only [iI_add, iI_sub, iI_mul, iI_neg]) rfl ?_
    exact x_dr_b hF hX hk m (n + 1) _ (by omega) (dps_up hf rfl)
theorem x_dr_k {K : PK} {d : Nat} {tx oc : Nat} {rl : Nat → Option Nat} {ou : Nat → Int64} {tl : List PO} {q : Nat × Nat} {Q : Option Value → PG → Prop} {nw nb : Int} {W B : Int → Int → Int} (hF : FrOK nw nb W B) {k : Int} {s : Int64} {law : Int → Int} (hL : LwOK law) (rk : 0 ≤ k ∧ k ≤ 40) : ∀ (m : Nat) (i : Int) (x : Int64) (D : SD) (sc : Nat → Int) (ar : Nat → Int → Int) (e7 : Option Value) (hm : 0 ≤ i ∧ i + m = k) (hX : FrX (sc 303) (sc 304) (ar 5) (ar 6) (ar 7) (ar 8) (ar 10) (ar 11) (ar 12) nw nb W B) (hlw : ∀ j, 0 ≤ j → j < 4 → ar 32 j = law j) (hO : NtOK nb D) (hd : dN D + m < 999999) (hN : NtX D sc ar) (hk : ∀ sc' ar', Same nxF2 sc sc' → Same nxA2 ar ar' → NtX (dnt nw nb W B law m x D) sc' ar' → Q (some (.int (iI (dN (dnt nw nb W B law m x D))))) (HW sc' ar' tx oc rl ou tl, q)), RQ K (d + 5) 10 false (some .int) cd132 29 [some (.ref 0), some (.int (iI k)), some (.long s), none, some (.long x), none, some (.int (iI i)), e7] [] (HW sc ar tx oc rl ou tl, q) Q
  | 0, i, x, D, sc, ar, e7, hm, hX, hlw, hO, hd, hN, hk => by
    have hn := hF.1
    have hm1 := hX.1
    have hm2 := hX.2.1
    refine RQ.seg 2 (pc' := 32) (L' := [some (.ref 0), some (.int (iI k)), some (.long s), none, some (.long x), none, some (.int (iI i)), e7]) (st' := [.int (iI k), .int (iI i)]) (g1 := (HW sc ar tx oc rl ou tl, q)) rfl ?_
    refine RQ.if2 (a := i) (b := k) rfl rfl rfl rfl (by omega) (by omega) (fun _ => ?_) (fun (q : ¬ k ≤ i) => absurd (show k ≤ i from by omega) q)
    refine RQ.seg 3 (pc' := 119) (L' := [some (.ref 0), some (.int (iI k)), some (.long s), none, some (.long x), none, some (.int (iI i)), e7]) (st' := [.int (iI (sc 3106))]) (g1 := (HW sc ar tx oc rl ou tl, q)) rfl ?_
    refine RQ.ret rfl rfl ?_
    rw [show sc 3106 = dN D from hN.1]
    exact hk sc ar Same.rf Same.rf hN
  | m + 1, i, x, D, sc, ar, e7, hm, hX, hlw, hO, hd, hN, hk => by
    have hn := hF.1
    have hm1 := hX.1
    have hm2 := hX.2.1
    refine RQ.seg 2 (pc' := 32) (L' := [some (.ref 0), some (.int (iI k)), some (.long s), none, some (.long x), none, some (.int (iI i)), e7]) (st' := [.int (iI k), .int (iI i)]) (g1 := (HW sc ar tx oc rl ou tl, q)) rfl ?_
    refine RQ.if2 (a := i) (b := k) rfl rfl rfl rfl (by omega) (by omega) (fun (q : k ≤ i) => absurd q (show ¬ k ≤ i from by omega)) (fun _ => ?_)
    refine RQ.seg 2 (pc' := 38) (L' := [some (.ref 0), some (.int (iI k)), some (.long s), none, some (.long x), none, some (.int (iI i)), some (.int (iI 0))]) (st' := []) (g1 := (HW sc ar tx oc rl ou tl, q)) rfl ?_
    refine RQ.hp (g1 := (HW sc (usc ar 78 (ar 78)) tx oc rl ou tl, q)) (congrArg (fun a => (HW sc a tx oc rl ou tl, q)) (show ar = usc ar 78 (ar 78) by funext j; unfold usc; cases hb : Nat.beq j 78 <;> first | rfl | (rw [Nat.eq_of_beq_eq_true hb]; rfl))) ?_
    refine x_dr_b (sc := sc) (ar := ar) (x := x) hF hX (fun f hf => ?_) nb.toNat 0 (ar 78) (by omega) (fun c h0 h1 => absurd h1 (by omega))
    refine RQ.seg 4 (pc' := 99) (L' := [some (.ref 0), some (.int (iI k)), some (.long s), none, some (.long (nxi nb.toNat x)), none, some (.int (iI i)), some (.int (iI nb))]) (st' := [.ref 78, .ref 51]) (g1 := (HW sc (usc ar 78 f) tx oc rl ou tl, q)) rfl ?_
    have hmy := dps_ok (nw := nw) (nb := nb) (W := W) (B := B) x
    refine RQ.callQ rfl rfl ((x_run78 (d := 0) (sc := sc) (ar := usc ar 78 f) (P := dps nw W B x) hF hX hf hmy).up (by omega)) (fun rv g1 hc => ?_)
    obtain ⟨rfl, sc1, ar1, rfl, hp, hs1, ha1⟩ := hc
    have hs2 : Same scF sc sc1 := hs1.w rfl
    have ha2 : Same scA ar ar1 := Same.tr (Same.us rfl Same.rf) (ha1.w rfl)
    have hX1 := hX.sm hs2 ha2
    have hlw1 : ∀ j, 0 ≤ j → j < 4 → ar1 32 j = law j := fun j h0 h1 => (congrFun (ha2 32 rfl) j).trans (hlw j h0 h1)
    refine RQ.seg 1 (pc' := 103) (L' := [some (.ref 0), some (.int (iI k)), some (.long s), none, some (.long (nxi nb.toNat x)), none, some (.int (iI i)), some (.int (iI nb))]) (st' := [.ref 0]) (g1 := (HW sc1 ar1 tx oc rl ou tl, q)) rfl ?_
    refine RQ.callQ rfl rfl ((x_putBy (d := 0) hF hX1 hmy hp hlw1 hL hO (hN.sm hs2 ha2)).up (by omega)) (fun rv g1 hc => ?_)
    obtain ⟨rfl, sc2, ar2, rfl, hs3, ha3, hN1⟩ := hc
    have hs4 : Same nxF2 sc sc2 := Same.tr (hs2.w rfl) (hs3.w rfl)
    have ha4 : Same nxA2 ar ar2 := Same.tr (ha2.w rfl) (ha3.w rfl)
    refine RQ.seg 2 (pc' := 29) (L' := [some (.ref 0), some (.int (iI k)), some (.long s), none, some (.long (nxi nb.toNat x)), none, some (.int ((iI i) + (iI 1))), some (.int (iI nb))]) (st' := []) (g1 := (HW sc2 ar2 tx oc rl ou tl, q)) rfl ?_
    refine RQ.to (L' := [some (.ref 0), some (.int (iI k)), some (.long s), none, some (.long (nxi nb.toNat x)), none, some (.int (iI (i + 1))), some (.int (iI nb))]) (st' := []) (by simp only [iI_add, iI_sub, iI_mul, iI_neg]) rfl ?_
    obtain ⟨hO1, hd1⟩ := hO.dn hd (sS (svn nb W B (dps nw W B x))) (gnr nw nb W B law (dps nw W B x))
    exact x_dr_k hF hL rk m (i + 1) (nxi nb.toNat x) _ sc2 ar2 _ (by omega) (hX.sn hs4 ha4) (fun j h0 h1 => (congrFun (ha4 32 rfl) j).trans (hlw j h0 h1)) hO1 hd1 hN1 (fun sc' ar' h1 h2 h3 => hk sc' ar' (hs4.tr h1) (ha4.tr h2) h3)
theorem x_drawn {K : PK} {d : Nat} {sc : Nat → Int} {ar : Nat → Int → Int} {tx oc : Nat} {rl : Nat → Option Nat} {ou : Nat → Int64} {tl : List PO} {q : Nat × Nat} {k : Int} {s : Int64} {nw nb : Int} {W B : Int → Int → Int} (hF : FrOK nw nb W B) (hX : FrX (sc 303) (sc 304) (ar 5) (ar 6) (ar 7) (ar 8) (ar 10) (ar 11) (ar 12) nw nb W B) {law : Int → Int} (hlw : ∀ j, 0 ≤ j → j < 4 → ar 32 j = law j) (hL : LwOK law) {D : SD} (hO : NtOK nb D) (hN : NtX D sc ar) (rk : -2147483648 ≤ k ∧ k < 2147483648) (hd : dN D < 999000) : CQ K (d + 6) 132 [.ref 0, .int (iI k), .long s] (HW sc ar tx oc rl ou tl, q) (fun r g' => r = some (.int (iI (if (0 < nb ∧ 1 ≤ k ∧ k ≤ 40) then dN (dnt nw nb W B law k.toNat s D) else -1))) ∧ ∃ sc' ar', g' = (HW sc' ar' tx oc rl ou tl, q) ∧ Same nxF2 sc sc' ∧ Same nxA2 ar ar' ∧ NtX (if (0 < nb ∧ 1 ≤ k ∧ k ≤ 40) then dnt nw nb W B law k.toNat s D else D) sc' ar') := by
  have hn := hF.1
  have hm1 := hX.1
  have hm2 := hX.2.1
  refine CQ.of (own := 10) (n := 8) (ini := false) (rt := (some .int)) (cd := cd132) (by decide +kernel) rfl (by decide +kernel) rfl (Nat.le_of_ble_eq_true rfl) ?_
  refine RQ.seg 2 (pc' := 4) (L' := [some (.ref 0), some (.int (iI k)), some (.long s), none, none, none, none, none]) (st' := [.ref 3]) (g1 := (HW sc ar tx oc rl ou tl, q)) rfl ?_
  rcases Decidable.em (0 < nb) with h1 | h1
  · skip
    refine RQ.call rfl rfl (x_standsN_t hX hF h1) ?_
    refine RQ.seg 3 (pc' := 12) (L' := [some (.ref 0), some (.int (iI k)), some (.long s), none, none, none, none, none]) (st' := [.int (iI 1), .int (iI k)]) (g1 := (HW sc ar tx oc rl ou tl, q)) rfl ?_
    refine RQ.if2 (a := k) (b := 1) rfl rfl rfl rfl (by omega) (by omega) (fun (h2 : k < 1) => ?_) (fun (h2 : ¬ k < 1) => ?_)
    · skip
      refine RQ.seg 1 (pc' := 22) (L' := [some (.ref 0), some (.int (iI k)), some (.long s), none, none, none, none, none]) (st' := [.int (iI (-1))]) (g1 := (HW sc ar tx oc rl ou tl, q)) rfl ?_
      refine RQ.ret rfl rfl ?_
      rw [if_neg (by omega), if_neg (by omega)]
      exact ⟨rfl, _, _, rfl, Same.rf, Same.rf, hN⟩
    · skip
      refine RQ.seg 2 (pc' := 18) (L' := [some (.ref 0), some (.int (iI k)), some (.long s), none, none, none, none, none]) (st' := [.int (iI 40), .int (iI k)]) (g1 := (HW sc ar tx oc rl ou tl, q)) rfl ?_
      refine RQ.if2 (a := k) (b := 40) rfl rfl rfl rfl (by omega) (by omega) (fun (h3 : k ≤ 40) => ?_) (fun (h3 : ¬ k ≤ 40) => ?_)
      · skip
        refine RQ.seg 4 (pc' := 29) (L' := [some (.ref 0), some (.int (iI k)), some (.long s), none, some (.long s), none, some (.int (iI 0)), none]) (st' := []) (g1 := (HW sc ar tx oc rl ou tl, q)) rfl ?_
        rw [if_pos (by omega), if_pos (by omega)]
        exact x_dr_k hF hL (by omega) k.toNat 0 s D sc ar _ (by omega) hX hlw hO (by omega) hN (fun sc' ar' h1 h2 h3 => ⟨rfl, sc', ar', rfl, h1, h2, h3⟩)
      · skip
        refine RQ.seg 1 (pc' := 22) (L' := [some (.ref 0), some (.int (iI k)), some (.long s), none, none, none, none, none]) (st' := [.int (iI (-1))]) (g1 := (HW sc ar tx oc rl ou tl, q)) rfl ?_
        refine RQ.ret rfl rfl ?_
        rw [if_neg (by omega), if_neg (by omega)]
        exact ⟨rfl, _, _, rfl, Same.rf, Same.rf, hN⟩
  · skip
    refine RQ.call rfl rfl (x_standsN_f hX hF h1) ?_
    refine RQ.seg 2 (pc' := 22) (L' := [some (.ref 0), some (.int (iI k)), some (.long s), none, none, none, none, none]) (st' := [.int (iI (-1))]) (g1 := (HW sc ar tx oc rl ou tl, q)) rfl ?_
    refine RQ.ret rfl rfl ?_
    rw [if_neg (by omega), if_neg (by omega)]
    exact ⟨rfl, _, _, rfl, Same.rf, Same.rf, hN⟩
theorem m_dr_b {K : PK} {d : Nat} {sc : Nat → Int} {ar : Nat → Int → Int} {tx oc : Nat} {rl : Nat → Option Nat} {ou : Nat → Int64} {tl : List PO} {q : Nat × Nat} {Q : Option Value → PG → Prop} {k i : Int} {s x : Int64} {nw nb : Int} {W B : Int → Int → Int} (hF : FrOK nw nb W B) (hM : FrM (sc 8024) (sc 8025) (ar 85) (ar 86) nw nb W B) (hk : ∀ (f' : Int → Int) (e8 e9 : Option Value), (∀ c, 0 ≤ c → c < nb → f' c = dps nw W B x c) → RQ K (d + 4) 11 false (some .int) cd229 162 [some (.ref 80), some (.int (iI k)), some (.long s), none, some (.long (nxi nb.toNat x)), none, some (.int (iI i)), some (.int (iI nb)), e8, e9] [] (HW (usc sc 8000 0) (usc ar 96 f') tx oc rl ou tl, q) Q) : ∀ (m n : Nat) (f : Int → Int) (e8 e9 : Option Value) (hm : (n : Int) + m = nb) (hf : (∀ c, 0 ≤ c → c < (n : Int) → f c = dps nw W B x c)), RQ K (d + 4) 11 false (some .int) cd229 41 [some (.ref 80), some (.int (iI k)), some (.long s), none, some (.long (nxi n x)), none, some (.int (iI i)), some (.int (iI (n : Int))), e8, e9] [] (HW (usc sc 8000 0) (usc ar 96 f) tx oc rl ou tl, q) Q
  | 0, n, f, e8, e9, hm, hf => by
    have hn := hF.1
    have hm1 := hM.1
    have hm2 := hM.2.1
    obtain rfl : nb = (n : Int) := by omega
    rw [Int.toNat_natCast] at hk
    refine RQ.seg 3 (pc' := 47) (L' := [some (.ref 80), some (.int (iI k)), some (.long s), none, some (.long (nxi n x)), none, some (.int (iI i)), some (.int (iI (n : Int))), e8, e9]) (st' := [.int (iI (sc 8025)), .int (iI (n : Int))]) (g1 := (HW (usc sc 8000 0) (usc ar 96 f) tx oc rl ou tl, q)) rfl ?_
    refine RQ.if2 (a := (n : Int)) (b := (sc 8025)) rfl rfl rfl rfl (by omega) (by omega) (fun _ => ?_) (fun (q : ¬ sc 8025 ≤ (n : Int)) => absurd (show sc 8025 ≤ (n : Int) from by omega) q)
    exact hk f e8 e9 hf
  | m + 1, n, f, e8, e9, hm, hf => by
    have hn := hF.1
    have hm1 := hM.1
    have hm2 := hM.2.1
    have hdr := drw_r (nxs (nxi n x))
    generalize hv : drw (nxs (nxi n x)) = v at hdr
    refine RQ.seg 3 (pc' := 47) (L' := [some (.ref 80), some (.int (iI k)), some (.long s), none, some (.long (nxi n x)), none, some (.int (iI i)), some (.int (iI (n : Int))), e8, e9]) (st' := [.int (iI (sc 8025)), .int (iI (n : Int))]) (g1 := (HW (usc sc 8000 0) (usc ar 96 f) tx oc rl ou tl, q)) rfl ?_
    refine RQ.if2 (a := (n : Int)) (b := (sc 8025)) rfl rfl rfl rfl (by omega) (by omega) (fun (q : sc 8025 ≤ (n : Int)) => absurd q (show ¬ sc 8025 ≤ (n : Int) from by omega)) (fun _ => ?_)
    refine RQ.seg 10 (pc' := 70) (L' := [some (.ref 80), some (.int (iI k)), some (.long s), none, some (.long (nxs (nxi n x))), none, some (.int (iI i)), some (.int (iI (n : Int))), e8, e9]) (st' := [.long (lL 28), .long (ush (nxs (nxi n x)))]) (g1 := (HW (usc sc 8000 0) (usc ar 96 f) tx oc rl ou tl, q)) rfl ?_
    refine RQ.lremd (x := (nxs (nxi n x))) rfl ?_
    refine RQ.l2id (x := (nxs (nxi n x))) rfl ?_
    rw [hv]
    refine RQ.seg 3 (pc' := 77) (L' := [some (.ref 80), some (.int (iI k)), some (.long s), none, some (.long (nxs (nxi n x))), none, some (.int (iI i)), some (.int (iI (n : Int))), some (.int (iI v)), e9]) (st' := [.int (iI 4), .int (iI v)]) (g1 := (HW (usc sc 8000 0) (usc ar 96 f) tx oc rl ou tl, q)) rfl ?_
    refine RQ.idiv (a := v) (b := 4) rfl rfl rfl (by omega) (by omega) ?_
    refine RQ.seg 1 (pc' := 80) (L' := [some (.ref 80), some (.int (iI k)), some (.long s), none, some (.long (nxs (nxi n x))), none, some (.int (iI i)), some (.int (iI (n : Int))), some (.int (iI v)), e9]) (st' := [.int (iI 6), .int (iI (v / 4))]) (g1 := (HW (usc sc 8000 0) (usc ar 96 f) tx oc rl ou tl, q)) rfl ?_
    refine RQ.if2 (a := (v / 4)) (b := 6) rfl rfl rfl rfl (by omega) (by omega) (fun (h2 : 6 ≤ v / 4) => ?_) (fun (h2 : ¬ 6 ≤ v / 4) => ?_)
    · skip
      refine RQ.seg 8 (pc' := 155) (L' := [some (.ref 80), some (.int (iI k)), some (.long s), none, some (.long (nxs (nxi n x))), none, some (.int (iI i)), some (.int (iI (n : Int))), some (.int (iI v)), some (.int (iI 0))]) (st' := [.int (iI 99), .int (iI (n : Int)), .ref 96]) (g1 := (HW (usc sc 8000 0) (usc ar 96 f) tx oc rl ou tl, q)) rfl ?_
      refine RQ.iast (z := (n : Int)) (v := 99) (g1 := (HW (usc sc 8000 0) (usc ar 96 (usz f (n : Int) 99)) tx oc rl ou tl, q)) rfl rfl rfl rfl (by omega) (by decide) (HWa_96 (by funext j; unfold usc; cases hb : Nat.beq j 96 <;> first | rfl | (rw [Nat.eq_of_beq_eq_true hb]; rfl))) ?_
      refine RQ.seg 2 (pc' := 41) (L' := [some (.ref 80), some (.int (iI k)), some (.long s), none, some (.long (nxs (nxi n x))), none, some (.int (iI i)), some (.int ((iI (n : Int)) + (iI 1))), some (.int (iI v)), some (.int (iI 0))]) (st' := []) (g1 := (HW (usc sc 8000 0) (usc ar 96 (usz f (n : Int) 99)) tx oc rl ou tl, q)) rfl ?_
      refine RQ.to (L' := [some (.ref 80), some (.int (iI k)), some (.long s), none, some (.long (nxs (nxi n x))), none, some (.int (iI i)), some (.int (iI ((n : Int) + 1))), some (.int (iI v)), some (.int (iI 0))]) (st' := []) (by simp only [iI_add, iI_sub, iI_mul, iI_neg]) rfl ?_
      refine m_dr_b hF hM hk m (n + 1) _ _ _ (by omega) (dps_up hf ?_)
      rw [hv]; unfold dpt; first | rw [if_pos ⟨by omega, by omega, by assumption⟩] | rw [if_neg (fun z => by first | omega | exact absurd z.2.2 (by assumption))]
    · skip
      refine RQ.seg 2 (pc' := 86) (L' := [some (.ref 80), some (.int (iI k)), some (.long s), none, some (.long (nxs (nxi n x))), none, some (.int (iI i)), some (.int (iI (n : Int))), some (.int (iI v)), e9]) (st' := [.int (iI 4), .int (iI v)]) (g1 := (HW (usc sc 8000 0) (usc ar 96 f) tx oc rl ou tl, q)) rfl ?_
      refine RQ.irem (a := v) (b := 4) rfl rfl rfl (by omega) (by omega) ?_
      refine RQ.seg 2 (pc' := 91) (L' := [some (.ref 80), some (.int (iI k)), some (.long s), none, some (.long (nxs (nxi n x))), none, some (.int (iI i)), some (.int (iI (n : Int))), some (.int (iI v)), e9]) (st' := [.int (iI (sc 8024)), .int (iI (v % 4))]) (g1 := (HW (usc sc 8000 0) (usc ar 96 f) tx oc rl ou tl, q)) rfl ?_
      refine RQ.if2 (a := (v % 4)) (b := (sc 8024)) rfl rfl rfl rfl (by omega) (by omega) (fun (h3 : sc 8024 ≤ v % 4) => ?_) (fun (h3 : ¬ sc 8024 ≤ v % 4) => ?_)
      · skip
        refine RQ.seg 8 (pc' := 155) (L' := [some (.ref 80), some (.int (iI k)), some (.long s), none, some (.long (nxs (nxi n x))), none, some (.int (iI i)), some (.int (iI (n : Int))), some (.int (iI v)), some (.int (iI 0))]) (st' := [.int (iI 99), .int (iI (n : Int)), .ref 96]) (g1 := (HW (usc sc 8000 0) (usc ar 96 f) tx oc rl ou tl, q)) rfl ?_
        refine RQ.iast (z := (n : Int)) (v := 99) (g1 := (HW (usc sc 8000 0) (usc ar 96 (usz f (n : Int) 99)) tx oc rl ou tl, q)) rfl rfl rfl rfl (by omega) (by decide) (HWa_96 (by funext j; unfold usc; cases hb : Nat.beq j 96 <;> first | rfl | (rw [Nat.eq_of_beq_eq_true hb]; rfl))) ?_
        refine RQ.seg 2 (pc' := 41) (L' := [some (.ref 80), some (.int (iI k)), some (.long s), none, some (.long (nxs (nxi n x))), none, some (.int (iI i)), some (.int ((iI (n : Int)) + (iI 1))), some (.int (iI v)), some (.int (iI 0))]) (st' := []) (g1 := (HW (usc sc 8000 0) (usc ar 96 (usz f (n : Int) 99)) tx oc rl ou tl, q)) rfl ?_
        refine RQ.to (L' := [some (.ref 80), some (.int (iI k)), some (.long s), none, some (.long (nxs (nxi n x))), none, some (.int (iI i)), some (.int (iI ((n : Int) + 1))), some (.int (iI v)), some (.int (iI 0))]) (st' := []) (by simp only [iI_add, iI_sub, iI_mul, iI_neg]) rfl ?_
        refine m_dr_b hF hM hk m (n + 1) _ _ _ (by omega) (dps_up hf ?_)
        rw [hv]; unfold dpt; first | rw [if_pos ⟨by omega, by omega, by assumption⟩] | rw [if_neg (fun z => by first | omega | exact absurd z.2.2 (by assumption))]
      · skip
        refine RQ.seg 8 (pc' := 105) (L' := [some (.ref 80), some (.int (iI k)), some (.long s), none, some (.long (nxs (nxi n x))), none, some (.int (iI i)), some (.int (iI (n : Int))), some (.int (iI v)), e9]) (st' := [.int (((iI 3) * (iI (n : Int))) + (iI 1)), .ref 86, .ref 80]) (g1 := (HW (usc sc 8000 0) (usc ar 96 f) tx oc rl ou tl, q)) rfl ?_
        have hf1 := hF.2.2 (n : Int) (by omega) (by omega)
        refine RQ.ialdv (z := (3 * (n : Int) + 1)) (v := (B (n : Int) 1)) rfl (by simp only [iI_add, iI_sub, iI_mul, iI_neg]) rfl (by omega) (by decide) (frm_b1 hM (by omega) (by omega)) ?_
        refine RQ.seg 2 (pc' := 109) (L' := [some (.ref 80), some (.int (iI k)), some (.long s), none, some (.long (nxs (nxi n x))), none, some (.int (iI i)), some (.int (iI (n : Int))), some (.int (iI v)), e9]) (st' := [.int (iI 4), .int (iI v), .int (iI (B (n : Int) 1)), .ref 80]) (g1 := (HW (usc sc 8000 0) (usc ar 96 f) tx oc rl ou tl, q)) rfl ?_
        refine RQ.idiv (a := v) (b := 4) rfl rfl rfl (by omega) (by omega) ?_
        refine RQ.seg 2 (pc' := 113) (L' := [some (.ref 80), some (.int (iI k)), some (.long s), none, some (.long (nxs (nxi n x))), none, some (.int (iI i)), some (.int (iI (n : Int))), some (.int (iI v)), e9]) (st' := [.int (iI 4), .int (iI v), .int (iI (v / 4)), .int (iI (B (n : Int) 1)), .ref 80]) (g1 := (HW (usc sc 8000 0) (usc ar 96 f) tx oc rl ou tl, q)) rfl ?_
        refine RQ.irem (a := v) (b := 4) rfl rfl rfl (by omega) (by omega) ?_
        rcases Decidable.em (rch W (B (n : Int) 1) (v / 4) (v % 4)) with h4 | h4
        · skip
          refine RQ.call rfl rfl (m_rch_t hF hM (by omega) (by omega) (by omega) h4) ?_
          refine RQ.seg 12 (pc' := 143) (L' := [some (.ref 80), some (.int (iI k)), some (.long s), none, some (.long (nxs (nxi n x))), none, some (.int (iI i)), some (.int (iI (n : Int))), some (.int (iI v)), some (.int (iI 1))]) (st' := [.int (iI 4), .int (iI v), .int (iI 10), .int (iI (n : Int)), .ref 96]) (g1 := (HW (usc sc 8000 0) (usc ar 96 f) tx oc rl ou tl, q)) rfl ?_
          refine RQ.idiv (a := v) (b := 4) rfl rfl rfl (by omega) (by omega) ?_
          refine RQ.seg 3 (pc' := 148) (L' := [some (.ref 80), some (.int (iI k)), some (.long s), none, some (.long (nxs (nxi n x))), none, some (.int (iI i)), some (.int (iI (n : Int))), some (.int (iI v)), some (.int (iI 1))]) (st' := [.int (iI 4), .int (iI v), .int ((iI 10) * (iI (v / 4))), .int (iI (n : Int)), .ref 96]) (g1 := (HW (usc sc 8000 0) (usc ar 96 f) tx oc rl ou tl, q)) rfl ?_
          refine RQ.irem (a := v) (b := 4) rfl rfl rfl (by omega) (by omega) ?_
          refine RQ.seg 2 (pc' := 155) (L' := [some (.ref 80), some (.int (iI k)), some (.long s), none, some (.long (nxs (nxi n x))), none, some (.int (iI i)), some (.int (iI (n : Int))), some (.int (iI v)), some (.int (iI 1))]) (st' := [.int (((iI 10) * (iI (v / 4))) + (iI (v % 4))), .int (iI (n : Int)), .ref 96]) (g1 := (HW (usc sc 8000 0) (usc ar 96 f) tx oc rl ou tl, q)) rfl ?_
          refine RQ.iast (z := (n : Int)) (v := (10 * (v / 4) + (v % 4))) (g1 := (HW (usc sc 8000 0) (usc ar 96 (usz f (n : Int) (10 * (v / 4) + (v % 4)))) tx oc rl ou tl, q)) rfl rfl (by simp only [iI_add, iI_sub, iI_mul, iI_neg]) rfl (by omega) (by decide) (HWa_96 (by funext j; unfold usc; cases hb : Nat.beq j 96 <;> first | rfl | (rw [Nat.eq_of_beq_eq_true hb]; rfl))) ?_
          refine RQ.seg 2 (pc' := 41) (L' := [some (.ref 80), some (.int (iI k)), some (.long s), none, some (.long (nxs (nxi n x))), none, some (.int (iI i)), some (.int ((iI (n : Int)) + (iI 1))), some (.int (iI v)), some (.int (iI 1))]) (st' := []) (g1 := (HW (usc sc 8000 0) (usc ar 96 (usz f (n : Int) (10 * (v / 4) + (v % 4)))) tx oc rl ou tl, q)) rfl ?_
          refine RQ.to (L' := [some (.ref 80), some (.int (iI k)), some (.long s), none, some (.long (nxs (nxi n x))), none, some (.int (iI i)), some (.int (iI ((n : Int) + 1))), some (.int (iI v)), some (.int (iI 1))]) (st' := []) (by simp only [iI_add, iI_sub, iI_mul, iI_neg]) rfl ?_
          refine m_dr_b hF hM hk m (n + 1) _ _ _ (by omega) (dps_up hf ?_)
          rw [hv]; unfold dpt; first | rw [if_pos ⟨by omega, by omega, by assumption⟩] | rw [if_neg (fun z => by first | omega | exact absurd z.2.2 (by assumption))]
        · skip
          refine RQ.call rfl rfl (m_rch_f hF hM (by omega) (by omega) (by omega) h4) ?_
          refine RQ.seg 9 (pc' := 155) (L' := [some (.ref 80), some (.int (iI k)), some (.long s), none, some (.long (nxs (nxi n x))), none, some (.int (iI i)), some (.int (iI (n : Int))), some (.int (iI v)), some (.int (iI 0))]) (st' := [.int (iI 99), .int (iI (n : Int)), .ref 96]) (g1 := (HW (usc sc 8000 0) (usc ar 96 f) tx oc rl ou tl, q)) rfl ?_
          refine RQ.iast (z := (n : Int)) (v := 99) (g1 := (HW (usc sc 8000 0) (usc ar 96 (usz f (n : Int) 99)) tx oc rl ou tl, q)) rfl rfl rfl rfl (by omega) (by decide) (HWa_96 (by funext j; unfold usc; cases hb : Nat.beq j 96 <;> first | rfl | (rw [Nat.eq_of_beq_eq_true hb]; rfl))) ?_
          refine RQ.seg 2 (pc' := 41) (L' := [some (.ref 80), some (.int (iI k)), some (.long s), none, some (.long (nxs (nxi n x))), none, some (.int (iI i)), some (.int ((iI (n : Int)) + (iI 1))), some (.int (iI v)), some (.int (iI 0))]) (st' := []) (g1 := (HW (usc sc 8000 0) (usc ar 96 (usz f (n : Int) 99)) tx oc rl ou tl, q)) rfl ?_
          refine RQ.to (L' := [some (.ref 80), some (.int (iI k)), some (.long s), none, some (.long (nxs (nxi n x))), none, some (.int (iI i)), some (.int (iI ((n : Int) + 1))), some (.int (iI v)), some (.int (iI 0))]) (st' := []) (by simp only [iI_add, iI_sub, iI_mul, iI_neg]) rfl ?_
          refine m_dr_b hF hM hk m (n + 1) _ _ _ (by omega) (dps_up hf ?_)
          rw [hv]; unfold dpt; first | rw [if_pos ⟨by omega, by omega, by assumption⟩] | rw [if_neg (fun z => by first | omega | exact absurd z.2.2 (by assumption))]
theorem m_dr_k {K : PK} {d : Nat} {tx oc : Nat} {rl : Nat → Option Nat} {ou : Nat → Int64} {tl : List PO} {q : Nat × Nat} {Q : Option Value → PG → Prop} {nw nb : Int} {W B : Int → Int → Int} (hF : FrOK nw nb W B) {k : Int} {s : Int64} {law : Int → Int} (hL : LwOK law) (rk : 0 ≤ k ∧ k ≤ 40) : ∀ (m : Nat) (i : Int) (x : Int64) (D : SD) (sc : Nat → Int) (ar : Nat → Int → Int) (e7 e8 e9 : Option Value) (hm : 0 ≤ i ∧ i + m = k) (hM : FrM (sc 8024) (sc 8025) (ar 85) (ar 86) nw nb W B) (hlw : ∀ j, 0 ≤ j → j < 4 → ar 87 j = law j) (hO : NtOK nb D) (hd : dN D + m < 999999) (hN : NtM nb D sc ar) (hk : ∀ sc' ar', Same nmF2 sc sc' → Same nmA2 ar ar' → NtM nb (dnt nw nb W B law m x D) sc' ar' → Q (some (.int (iI (dN (dnt nw nb W B law m x D))))) (HW sc' ar' tx oc rl ou tl, q)), RQ K (d + 4) 11 false (some .int) cd229 32 [some (.ref 80), some (.int (iI k)), some (.long s), none, some (.long x), none, some (.int (iI i)), e7, e8, e9] [] (HW (usc sc 8000 0) ar tx oc rl ou tl, q) Q
  | 0, i, x, D, sc, ar, e7, e8, e9, hm, hM, hlw, hO, hd, hN, hk => by
    have hn := hF.1
    have hm1 := hM.1
    have hm2 := hM.2.1
    refine RQ.seg 2 (pc' := 35) (L' := [some (.ref 80), some (.int (iI k)), some (.long s), none, some (.long x), none, some (.int (iI i)), e7, e8, e9]) (st' := [.int (iI k), .int (iI i)]) (g1 := (HW (usc sc 8000 0) ar tx oc rl ou tl, q)) rfl ?_
    refine RQ.if2 (a := i) (b := k) rfl rfl rfl rfl (by omega) (by omega) (fun _ => ?_) (fun (q : ¬ k ≤ i) => absurd (show k ≤ i from by omega) q)
    refine RQ.seg 2 (pc' := 176) (L' := [some (.ref 80), some (.int (iI k)), some (.long s), none, some (.long x), none, some (.int (iI i)), e7, e8, e9]) (st' := [.int (iI (sc 8032))]) (g1 := (HW (usc sc 8000 0) ar tx oc rl ou tl, q)) rfl ?_
    refine RQ.ret rfl rfl ?_
    rw [show sc 8032 = dN D from hN.1]
    exact hk (usc sc 8000 0) ar (Same.us rfl Same.rf) Same.rf hN
  | m + 1, i, x, D, sc, ar, e7, e8, e9, hm, hM, hlw, hO, hd, hN, hk => by
    have hn := hF.1
    have hm1 := hM.1
    have hm2 := hM.2.1
    refine RQ.seg 2 (pc' := 35) (L' := [some (.ref 80), some (.int (iI k)), some (.long s), none, some (.long x), none, some (.int (iI i)), e7, e8, e9]) (st' := [.int (iI k), .int (iI i)]) (g1 := (HW (usc sc 8000 0) ar tx oc rl ou tl, q)) rfl ?_
    refine RQ.if2 (a := i) (b := k) rfl rfl rfl rfl (by omega) (by omega) (fun (q : k ≤ i) => absurd q (show ¬ k ≤ i from by omega)) (fun _ => ?_)
    refine RQ.seg 2 (pc' := 41) (L' := [some (.ref 80), some (.int (iI k)), some (.long s), none, some (.long x), none, some (.int (iI i)), some (.int (iI 0)), e8, e9]) (st' := []) (g1 := (HW (usc sc 8000 0) ar tx oc rl ou tl, q)) rfl ?_
    refine RQ.hp (g1 := (HW (usc sc 8000 0) (usc ar 96 (ar 96)) tx oc rl ou tl, q)) (congrArg (fun a => (HW (usc sc 8000 0) a tx oc rl ou tl, q)) (show ar = usc ar 96 (ar 96) by funext j; unfold usc; cases hb : Nat.beq j 96 <;> first | rfl | (rw [Nat.eq_of_beq_eq_true hb]; rfl))) ?_
    refine m_dr_b (sc := sc) (ar := ar) (x := x) hF hM (fun f e8 e9 hf => ?_) nb.toNat 0 (ar 96) _ _ (by omega) (fun c h0 h1 => absurd h1 (by omega))
    refine RQ.seg 1 (pc' := 163) (L' := [some (.ref 80), some (.int (iI k)), some (.long s), none, some (.long (nxi nb.toNat x)), none, some (.int (iI i)), some (.int (iI nb)), e8, e9]) (st' := [.ref 80]) (g1 := (HW (usc sc 8000 0) (usc ar 96 f) tx oc rl ou tl, q)) rfl ?_
    have hmy := dps_ok (nw := nw) (nb := nb) (W := W) (B := B) x
    refine RQ.callQ rfl rfl (m_putBy (sc := usc sc 8000 0) (ar := usc ar 96 f) (P := dps nw W B x) hF hM hf hmy hlw hL hO hN) (fun rv g1 hc => ?_)
    obtain ⟨rfl, sc2, ar2, rfl, hs3, ha3, hN1⟩ := hc
    have hs4 : Same nmF2 sc sc2 := Same.tr (Same.us rfl Same.rf) (hs3.w rfl)
    have ha4 : Same nmA2 ar ar2 := Same.tr (Same.us rfl Same.rf) (ha3.w rfl)
    have hs5 : sc2 8000 = 0 := hs3 8000 rfl
    refine RQ.seg 2 (pc' := 32) (L' := [some (.ref 80), some (.int (iI k)), some (.long s), none, some (.long (nxi nb.toNat x)), none, some (.int ((iI i) + (iI 1))), some (.int (iI nb)), e8, e9]) (st' := []) (g1 := (HW sc2 ar2 tx oc rl ou tl, q)) rfl ?_
    refine RQ.to (L' := [some (.ref 80), some (.int (iI k)), some (.long s), none, some (.long (nxi nb.toNat x)), none, some (.int (iI (i + 1))), some (.int (iI nb)), e8, e9]) (st' := []) (by simp only [iI_add, iI_sub, iI_mul, iI_neg]) rfl ?_
    obtain ⟨hO1, hd1⟩ := hO.dn hd (sS (svn nb W B (dps nw W B x))) (gnr nw nb W B law (dps nw W B x))
    refine RQ.hp (g1 := (HW (usc sc2 8000 0) ar2 tx oc rl ou tl, q)) (HW_e (by rw [← hs5]; exact (usc_id sc2 8000).symm) rfl) ?_
    exact m_dr_k hF hL rk m (i + 1) (nxi nb.toNat x) _ sc2 ar2 _ _ _ (by omega) (hM.sn hs4 ha4) (fun j h0 h1 => (congrFun (ha4 87 rfl) j).trans (hlw j h0 h1)) hO1 hd1 hN1 (fun sc' ar' h1 h2 h3 => hk sc' ar' (hs4.tr h1) (ha4.tr h2) h3)
theorem m_drawn {K : PK} {d : Nat} {sc : Nat → Int} {ar : Nat → Int → Int} {tx oc : Nat} {rl : Nat → Option Nat} {ou : Nat → Int64} {tl : List PO} {q : Nat × Nat} {k : Int} {s : Int64} {nw nb : Int} {W B : Int → Int → Int} (hF : FrOK nw nb W B) (hM : FrM (sc 8024) (sc 8025) (ar 85) (ar 86) nw nb W B) {law : Int → Int} (hlw : ∀ j, 0 ≤ j → j < 4 → ar 87 j = law j) (hL : LwOK law) {D : SD} (hO : NtOK nb D) (hN : NtM nb D sc ar) (rk : -2147483648 ≤ k ∧ k < 2147483648) (hd : dN D < 999000) : CQ K (d + 5) 229 [.ref 80, .int (iI k), .long s] (HW sc ar tx oc rl ou tl, q) (fun r g' => r = some (.int (iI (if (0 < nb ∧ 1 ≤ k ∧ k ≤ 40) then dN (dnt nw nb W B law k.toNat s D) else -1))) ∧ ∃ sc' ar', g' = (HW sc' ar' tx oc rl ou tl, q) ∧ Same nmF2 sc sc' ∧ Same nmA2 ar ar' ∧ NtM nb (if (0 < nb ∧ 1 ≤ k ∧ k ≤ 40) then dnt nw nb W B law k.toNat s D else D) sc' ar') := by
  have hn := hF.1
  have hm1 := hM.1
  have hm2 := hM.2.1
  refine CQ.of (own := 11) (n := 10) (ini := false) (rt := (some .int)) (cd := cd229) (by decide +kernel) rfl (by decide +kernel) rfl (Nat.le_of_ble_eq_true rfl) ?_
  refine RQ.seg 5 (pc' := 9) (L' := [some (.ref 80), some (.int (iI k)), some (.long s), none, none, none, none, none, none, none]) (st' := [.int (iI (sc 8025))]) (g1 := (HW (usc sc 8000 0) ar tx oc rl ou tl, q)) rfl ?_
  refine RQ.if1 (a := (sc 8025)) rfl rfl rfl (by omega) (fun (h1 : sc 8025 = 0) => ?_) (fun (h1 : ¬ sc 8025 = 0) => ?_)
  · skip
    refine RQ.seg 1 (pc' := 25) (L' := [some (.ref 80), some (.int (iI k)), some (.long s), none, none, none, none, none, none, none]) (st' := [.int (iI (-1))]) (g1 := (HW (usc sc 8000 0) ar tx oc rl ou tl, q)) rfl ?_
    refine RQ.ret rfl rfl ?_
    rw [if_neg (by omega), if_neg (by omega)]
    exact ⟨rfl, _, _, rfl, Same.us rfl Same.rf, Same.rf, hN⟩
  · skip
    refine RQ.seg 1 (pc' := 13) (L' := [some (.ref 80), some (.int (iI k)), some (.long s), none, none, none, none, none, none, none]) (st' := [.int (iI k)]) (g1 := (HW (usc sc 8000 0) ar tx oc rl ou tl, q)) rfl ?_
    refine RQ.seg 1 (pc' := 14) (L' := [some (.ref 80), some (.int (iI k)), some (.long s), none, none, none, none, none, none, none]) (st' := [.long ((iI k).toInt64)]) (g1 := (HW (usc sc 8000 0) ar tx oc rl ou tl, q)) rfl ?_
    refine RQ.to (L' := [some (.ref 80), some (.int (iI k)), some (.long s), none, none, none, none, none, none, none]) (st' := [.long (lL k)]) rfl (by rw [iI_64 (by omega)]) ?_
    refine RQ.seg 2 (pc' := 18) (L' := [some (.ref 80), some (.int (iI k)), some (.long s), none, none, none, none, none, none, none]) (st' := [.long (lL 40), .long (lL 1), .long (lL k)]) (g1 := (HW (usc sc 8000 0) ar tx oc rl ou tl, q)) rfl ?_
    rcases Decidable.em (1 ≤ k ∧ k ≤ 40) with h2 | h2
    · skip
      refine RQ.call rfl rfl (m_isIn_t (by omega) (by omega) (by omega) h2) ?_
      refine RQ.seg 5 (pc' := 32) (L' := [some (.ref 80), some (.int (iI k)), some (.long s), none, some (.long s), none, some (.int (iI 0)), none, none, none]) (st' := []) (g1 := (HW (usc sc 8000 0) ar tx oc rl ou tl, q)) rfl ?_
      rw [if_pos (by omega), if_pos (by omega)]
      exact m_dr_k hF hL (by omega) k.toNat 0 s D sc ar _ _ _ (by omega) hM hlw hO (by omega) hN (fun sc' ar' h1 h2 h3 => ⟨rfl, sc', ar', rfl, h1, h2, h3⟩)
    · skip
      refine RQ.call rfl rfl (m_isIn_f (by omega) (by omega) (by omega) h2) ?_
      refine RQ.seg 2 (pc' := 25) (L' := [some (.ref 80), some (.int (iI k)), some (.long s), none, none, none, none, none, none, none]) (st' := [.int (iI (-1))]) (g1 := (HW (usc sc 8000 0) ar tx oc rl ou tl, q)) rfl ?_
      refine RQ.ret rfl rfl ?_
      rw [if_neg (by omega), if_neg (by omega)]
      exact ⟨rfl, _, _, rfl, Same.us rfl Same.rf, Same.rf, hN⟩
