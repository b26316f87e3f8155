/-! the class reads a rule: steps, and what it does once a byte is wrong, by wip/tools -/
/-! the class reads a rule: steps, and what it does once a byte is wrong -/
def ruF : List Nat := [2601, 2602, 2701]
def ruA : List Nat := [29]
def RX (tp : List Int) (r : RS) (sc : Nat → Int) (ar : Nat → Int → Int) : Prop := (sc 101 = (tp.length : Int) ∧ LAt (fun v => v) (ar 2) tp) ∧ (0 ≤ sc 2601 ∧ sc 2601 ≤ (tp.length : Int)) ∧ (0 ≤ sc 2701 ∧ sc 2701 ≤ 161) ∧ sc 2602 = r.1 ∧ (-1 ≤ r.1 ∧ r.1 ≤ 160) ∧ (r.1 = -1 → sc 2601 = r.2.1 ∧ sc 2701 = (r.2.2.length : Int) ∧ LAt (fun v => v) (ar 29) r.2.2 ∧ (r.2.2.length : Int) ≤ r.2.1)
def QX (tp : List Int) (r : RS) (sc : Nat → Int) (ar : Nat → Int → Int) (tx oc : Nat) (rl : Nat → Option Nat) (ou : Nat → Int64) (tl : List PO) (q : Nat × Nat) : Option Value → PG → Prop := fun v g' => v = none ∧ ∃ sc' ar', g' = (HW sc' ar' tx oc rl ou tl, q) ∧ Same ruF sc sc' ∧ Same ruA ar ar' ∧ RX tp r sc' ar'
theorem RX.bad {tp : List Int} {r : RS} {sc sc' : Nat → Int} {ar ar' : Nat → Int → Int} (h : RX tp r sc ar) (he : ¬ r.1 = -1) (h1 : sc' 101 = sc 101) (h2 : ar' 2 = ar 2) (h3 : 0 ≤ sc' 2601 ∧ sc' 2601 ≤ (tp.length : Int)) (h4 : 0 ≤ sc' 2701 ∧ sc' 2701 ≤ 161) (h5 : sc' 2602 = sc 2602) : RX tp r sc' ar' := ⟨by rw [h1, h2]; exact h.1, h3, h4, h5.trans h.2.2.2.1, h.2.2.2.2.1, fun z => absurd z he⟩
theorem LAt.a1 {f : Int → Int} {l : List Int} {x : Int} (h : LAt (fun v => v) f l) : LAt (fun v => v) (usz f (l.length : Int) x) (l ++ [x]) := by
  intro k k0 k1
  have k1' : k < (l.length : Int) + 1 := by
    have : (l ++ [x]).length = l.length + 1 := by rw [List.length_append]; rfl
    omega
  by_cases ek : k = (l.length : Int)
  · rw [ek, usz_s]
    show x = (l ++ [x]).getD ((l.length : Int)).toNat 0
    rw [Int.toNat_natCast]
    simp [List.getD]
  · rw [usz_n ek, h k k0 (by omega)]
    show l.getD k.toNat 0 = (l ++ [x]).getD k.toNat 0
    have hk : k.toNat < l.length := by omega
    simp [List.getD, List.getElem?_append, hk]
theorem rsq_b {r : RS} {k : Int → RS} (h : ¬ r.1 = -1) : rsq r k = r := if_pos h
theorem rsq_g {r : RS} {k : Int → RS} (h : r.1 = -1) : rsq r k = ((k r.2.1).1, (k r.2.1).2.1, r.2.2 ++ (k r.2.1).2.2) := if_neg (fun z => z h)
theorem x_app {K : PK} {d : Nat} {sc : Nat → Int} {ar : Nat → Int → Int} {tx oc : Nat} {rl : Nat → Option Nat} {ou : Nat → Int64} {tl : List PO} {q : Nat × Nat} {tp : List Int} {r0 : RS} (ht : TpOK tp) (hR : RX tp r0 sc ar) {x : Int} (rx : -2147483648 ≤ x ∧ x < 2147483648) (hx : r0.1 = -1 → (r0.2.2.length : Int) + 1 ≤ r0.2.1) : CQ K (d + 1) 1 [.ref 27, .int (iI x)] (HW sc ar tx oc rl ou tl, q) (QX tp (rap r0 x) sc ar tx oc rl ou tl q) := by
  have ht1 := ht.1
  obtain ⟨⟨hs, hl⟩, hA, hZ, hW, hWr, hG⟩ := id hR
  refine CQ.of (own := 0) (n := 2) (ini := false) (rt := none) (cd := cd1) (by decide +kernel) rfl (by decide +kernel) rfl (Nat.le_of_ble_eq_true rfl) ?_
  refine RQ.seg 4 (pc' := 8) (L' := [some (.ref 27), some (.int (iI x))]) (st' := [.ref 29, .int (iI (sc 2701))]) (g1 := (HW sc ar tx oc rl ou tl, q)) rfl ?_
  refine RQ.alen rfl rfl ?_
  refine RQ.if2 (a := (sc 2701)) (b := 161) rfl rfl rfl rfl (by omega) (by omega) (fun (h1 : 161 ≤ sc 2701) => ?_) (fun (h1 : ¬ 161 ≤ sc 2701) => ?_)
  · skip
    refine RQ.ret rfl rfl ?_
    exact ⟨rfl, _, _, rfl, Same.rf, Same.rf, ⟨hs, hl⟩, hA, hZ, hW, hWr, fun z => by have g := hG z; have g5 := hx z; omega⟩
  · skip
    refine RQ.seg 5 (pc' := 21) (L' := [some (.ref 27), some (.int (iI x))]) (st' := [.int (iI x), .int (iI (sc 2701)), .ref 29]) (g1 := (HW sc ar tx oc rl ou tl, q)) rfl ?_
    refine RQ.iast (z := (sc 2701)) (v := x) (g1 := (HW sc (usc ar 29 (usz (ar 29) (sc 2701) x)) tx oc rl ou tl, q)) rfl rfl rfl rfl (by omega) (by decide) (HWa_29 rfl) ?_
    refine RQ.seg 5 (pc' := 29) (L' := [some (.ref 27), some (.int (iI x))]) (st' := [.int ((iI (sc 2701)) + (iI 1)), .ref 27]) (g1 := (HW sc (usc ar 29 (usz (ar 29) (sc 2701) x)) tx oc rl ou tl, q)) rfl ?_
    refine RQ.to (L' := [some (.ref 27), some (.int (iI x))]) (st' := [.int (iI (sc 2701 + 1)), .ref 27]) rfl (by simp only [iI_add, iI_sub, iI_mul, iI_neg]) ?_
    refine RQ.seg 1 (pc' := 32) (L' := [some (.ref 27), some (.int (iI x))]) (st' := []) (g1 := (HW (usc sc 2701 (sc 2701 + 1)) (usc ar 29 (usz (ar 29) (sc 2701) x)) tx oc rl ou tl, q)) rfl ?_
    refine RQ.ret rfl rfl ?_
    refine ⟨rfl, _, _, rfl, by repeat (first | exact Same.rf | refine Same.us rfl ?_), by repeat (first | exact Same.rf | refine Same.us rfl ?_), ⟨hs, hl⟩, hA, by show 0 ≤ sc 2701 + 1 ∧ sc 2701 + 1 ≤ 161; omega, hW, hWr, fun z => ?_⟩
    obtain ⟨g1, g2, g3, g4⟩ := hG z
    have g5 := hx z
    have e9 : ((r0.2.2 ++ [x]).length : Int) = (r0.2.2.length : Int) + 1 := by rw [List.length_append]; rfl
    refine ⟨g1, ?_, ?_, ?_⟩
    · show sc 2701 + 1 = ((r0.2.2 ++ [x]).length : Int); omega
    · show LAt (fun v => v) (usz (ar 29) (sc 2701) x) (r0.2.2 ++ [x]); rw [g2]; exact g3.a1
    · show ((r0.2.2 ++ [x]).length : Int) ≤ r0.2.1; omega
theorem x_nest_t {K : PK} {d : Nat} {sc : Nat → Int} {ar : Nat → Int → Int} {tx oc : Nat} {rl : Nat → Option Nat} {ou : Nat → Int64} {tl : List PO} {q : Nat × Nat} {dp : Int} (rdp : 0 ≤ dp ∧ dp ≤ 6) (ra : 0 ≤ sc 2601 ∧ sc 2601 ≤ 200) (rw0 : -1 ≤ sc 2602 ∧ sc 2602 ≤ 200) (hw : sc 2602 = -1) (hd : dp < 6) : CallR K (d + 2) 91 [.ref 26, .int (iI dp)] (HW sc ar tx oc rl ou tl, q) (some (.int (iI 1))) (HW (usc sc 2601 (sc 2601 + 1)) ar tx oc rl ou tl, q) := by
  apply CQ.x
  refine CQ.of (own := 7) (n := 2) (ini := false) (rt := (some .boolean)) (cd := cd91) (by decide +kernel) rfl (by decide +kernel) rfl (Nat.le_of_ble_eq_true rfl) ?_
  refine RQ.seg 1 (pc' := 1) (L' := [some (.ref 26), some (.int (iI dp))]) (st' := [.ref 26]) (g1 := (HW sc ar tx oc rl ou tl, q)) rfl ?_
  refine RQ.call rfl rfl (CallR.up (d := 1) (x_fine26t (d := 0) (sc := sc) (ar := ar) (by show -1 ≤ sc 2602 ∧ sc 2602 ≤ 200; omega) (by show sc 2602 = -1; omega)) (by omega)) ?_
  refine RQ.seg 3 (pc' := 10) (L' := [some (.ref 26), some (.int (iI dp))]) (st' := [.int (iI 6), .int (iI dp)]) (g1 := (HW sc ar tx oc rl ou tl, q)) rfl ?_
  refine RQ.if2 (a := dp) (b := 6) rfl rfl rfl rfl (by omega) (by omega) (fun _ => ?_) (fun (q : ¬ dp < 6) => absurd (show dp < 6 from by omega) q)
  refine RQ.seg 5 (pc' := 30) (L' := [some (.ref 26), some (.int (iI dp))]) (st' := [.int ((iI (sc 2601)) + (iI 1)), .ref 26]) (g1 := (HW sc ar tx oc rl ou tl, q)) rfl ?_
  refine RQ.to (L' := [some (.ref 26), some (.int (iI dp))]) (st' := [.int (iI (sc 2601 + 1)), .ref 26]) rfl (by simp only [iI_add, iI_sub, iI_mul, iI_neg]) ?_
  refine RQ.seg 2 (pc' := 34) (L' := [some (.ref 26), some (.int (iI dp))]) (st' := [.int (iI 1)]) (g1 := (HW (usc sc 2601 (sc 2601 + 1)) ar tx oc rl ou tl, q)) rfl ?_
  refine RQ.ret rfl rfl ?_
  exact ⟨rfl, rfl⟩
theorem x_nest_f {K : PK} {d : Nat} {sc : Nat → Int} {ar : Nat → Int → Int} {tx oc : Nat} {rl : Nat → Option Nat} {ou : Nat → Int64} {tl : List PO} {q : Nat × Nat} {dp : Int} (rdp : 0 ≤ dp ∧ dp ≤ 6) (ra : 0 ≤ sc 2601 ∧ sc 2601 ≤ 200) (rw0 : -1 ≤ sc 2602 ∧ sc 2602 ≤ 200) (hw : sc 2602 = -1) (hd : ¬ dp < 6) : CallR K (d + 2) 91 [.ref 26, .int (iI dp)] (HW sc ar tx oc rl ou tl, q) (some (.int (iI 0))) (HW (usc sc 2602 (sc 2601)) ar tx oc rl ou tl, q) := by
  apply CQ.x
  refine CQ.of (own := 7) (n := 2) (ini := false) (rt := (some .boolean)) (cd := cd91) (by decide +kernel) rfl (by decide +kernel) rfl (Nat.le_of_ble_eq_true rfl) ?_
  refine RQ.seg 1 (pc' := 1) (L' := [some (.ref 26), some (.int (iI dp))]) (st' := [.ref 26]) (g1 := (HW sc ar tx oc rl ou tl, q)) rfl ?_
  refine RQ.call rfl rfl (CallR.up (d := 1) (x_fine26t (d := 0) (sc := sc) (ar := ar) (by show -1 ≤ sc 2602 ∧ sc 2602 ≤ 200; omega) (by show sc 2602 = -1; omega)) (by omega)) ?_
  refine RQ.seg 3 (pc' := 10) (L' := [some (.ref 26), some (.int (iI dp))]) (st' := [.int (iI 6), .int (iI dp)]) (g1 := (HW sc ar tx oc rl ou tl, q)) rfl ?_
  refine RQ.if2 (a := dp) (b := 6) rfl rfl rfl rfl (by omega) (by omega) (fun (q : dp < 6) => absurd q (show ¬ dp < 6 from by omega)) (fun _ => ?_)
  refine RQ.seg 3 (pc' := 18) (L' := [some (.ref 26), some (.int (iI dp))]) (st' := [.int (iI (sc 2601)), .ref 26]) (g1 := (HW sc ar tx oc rl ou tl, q)) rfl ?_
  have hcall := CallR.up (d' := d + 1) (x_refuse26 (K := K) (d := 0) (tx := tx) (oc := oc) (rl := rl) (ou := ou) (tl := tl) (q := q) (sc := sc) (ar := ar) (p := sc 2601) (by show -1 ≤ sc 2602 ∧ sc 2602 ≤ 200; omega)) (by omega)
  rw [if_pos hw] at hcall
  refine RQ.call rfl rfl hcall ?_
  refine RQ.seg 1 (pc' := 22) (L' := [some (.ref 26), some (.int (iI dp))]) (st' := [.int (iI 0)]) (g1 := (HW (usc sc 2602 (sc 2601)) ar tx oc rl ou tl, q)) rfl ?_
  refine RQ.ret rfl rfl ?_
  exact ⟨rfl, rfl⟩
theorem x_nest_b {K : PK} {d : Nat} {sc : Nat → Int} {ar : Nat → Int → Int} {tx oc : Nat} {rl : Nat → Option Nat} {ou : Nat → Int64} {tl : List PO} {q : Nat × Nat} {dp : Int} (rdp : 0 ≤ dp ∧ dp ≤ 6) (ra : 0 ≤ sc 2601 ∧ sc 2601 ≤ 200) (rw0 : -1 ≤ sc 2602 ∧ sc 2602 ≤ 200) (hw : ¬ sc 2602 = -1) : CallR K (d + 2) 91 [.ref 26, .int (iI dp)] (HW sc ar tx oc rl ou tl, q) (some (.int (iI 0))) (HW (usc sc 2602 (sc 2602)) ar tx oc rl ou tl, q) := by
  apply CQ.x
  refine CQ.of (own := 7) (n := 2) (ini := false) (rt := (some .boolean)) (cd := cd91) (by decide +kernel) rfl (by decide +kernel) rfl (Nat.le_of_ble_eq_true rfl) ?_
  refine RQ.seg 1 (pc' := 1) (L' := [some (.ref 26), some (.int (iI dp))]) (st' := [.ref 26]) (g1 := (HW sc ar tx oc rl ou tl, q)) rfl ?_
  refine RQ.call rfl rfl (CallR.up (d := 1) (x_fine26f (d := 0) (sc := sc) (ar := ar) (by show -1 ≤ sc 2602 ∧ sc 2602 ≤ 200; omega) (by show ¬ sc 2602 = -1; omega)) (by omega)) ?_
  refine RQ.seg 4 (pc' := 18) (L' := [some (.ref 26), some (.int (iI dp))]) (st' := [.int (iI (sc 2601)), .ref 26]) (g1 := (HW sc ar tx oc rl ou tl, q)) rfl ?_
  have hcall := CallR.up (d' := d + 1) (x_refuse26 (K := K) (d := 0) (tx := tx) (oc := oc) (rl := rl) (ou := ou) (tl := tl) (q := q) (sc := sc) (ar := ar) (p := sc 2601) (by show -1 ≤ sc 2602 ∧ sc 2602 ≤ 200; omega)) (by omega)
  rw [if_neg hw] at hcall
  refine RQ.call rfl rfl hcall ?_
  refine RQ.seg 1 (pc' := 22) (L' := [some (.ref 26), some (.int (iI dp))]) (st' := [.int (iI 0)]) (g1 := (HW (usc sc 2602 (sc 2602)) ar tx oc rl ou tl, q)) rfl ?_
  refine RQ.ret rfl rfl ?_
  exact ⟨rfl, rfl⟩
theorem x_atomB {K : PK} {d : Nat} {sc : Nat → Int} {ar : Nat → Int → Int} {tx oc : Nat} {rl : Nat → Option Nat} {ou : Nat → Int64} {tl : List PO} {q : Nat × Nat} {dp : Int} (rdp : 0 ≤ dp ∧ dp ≤ 6) {tp : List Int} {r0 : RS} (ht : TpOK tp) (hR : RX tp r0 sc ar) (hE : ¬ r0.1 = -1) : CQ K (d + 2) 90 [.ref 26, .int (iI dp)] (HW sc ar tx oc rl ou tl, q) (QX tp r0 sc ar tx oc rl ou tl q) := by
  have ht1 := ht.1
  obtain ⟨⟨hs, hl⟩, hA, hZ, hW, hWr, hG⟩ := id hR
  refine CQ.of (own := 7) (n := 4) (ini := false) (rt := none) (cd := cd90) (by decide +kernel) rfl (by decide +kernel) rfl (Nat.le_of_ble_eq_true rfl) ?_
  refine RQ.seg 1 (pc' := 1) (L' := [some (.ref 26), some (.int (iI dp)), none, none]) (st' := [.ref 26]) (g1 := (HW sc ar tx oc rl ou tl, q)) rfl ?_
  refine RQ.call rfl rfl (CallR.up (d := 1) (x_fine26f (d := 0) (sc := sc) (ar := ar) (by show -1 ≤ sc 2602 ∧ sc 2602 ≤ 200; omega) (by show ¬ sc 2602 = -1; omega)) (by omega)) ?_
  refine RQ.seg 1 (pc' := 7) (L' := [some (.ref 26), some (.int (iI dp)), none, none]) (st' := []) (g1 := (HW sc ar tx oc rl ou tl, q)) rfl ?_
  refine RQ.ret rfl rfl ?_
  exact ⟨rfl, _, _, rfl, by repeat (first | exact Same.rf | refine Same.us rfl ?_), by repeat (first | exact Same.rf | refine Same.us rfl ?_), RX.bad hR hE rfl rfl (by show 0 ≤ sc 2601 ∧ sc 2601 ≤ _; omega) (by show 0 ≤ sc 2701 ∧ sc 2701 ≤ 161; omega) rfl⟩
theorem x_termB {K : PK} {d : Nat} {sc : Nat → Int} {ar : Nat → Int → Int} {tx oc : Nat} {rl : Nat → Option Nat} {ou : Nat → Int64} {tl : List PO} {q : Nat × Nat} {dp : Int} (rdp : 0 ≤ dp ∧ dp ≤ 6) {tp : List Int} {r0 : RS} (ht : TpOK tp) (hR : RX tp r0 sc ar) (hE : ¬ r0.1 = -1) : CQ K (d + 3) 89 [.ref 26, .int (iI dp)] (HW sc ar tx oc rl ou tl, q) (QX tp r0 sc ar tx oc rl ou tl q) := by
  have ht1 := ht.1
  obtain ⟨⟨hs, hl⟩, hA, hZ, hW, hWr, hG⟩ := id hR
  refine CQ.of (own := 7) (n := 4) (ini := false) (rt := none) (cd := cd89) (by decide +kernel) rfl (by decide +kernel) rfl (Nat.le_of_ble_eq_true rfl) ?_
  refine RQ.seg 2 (pc' := 2) (L' := [some (.ref 26), some (.int (iI dp)), none, none]) (st' := [.int (iI dp), .ref 26]) (g1 := (HW sc ar tx oc rl ou tl, q)) rfl ?_
  refine RQ.callQ rfl rfl (CQ.up (x_atomB (d := 0) (dp := dp) rdp ht hR hE) (by omega)) (fun rv g1 hc9 => ?_)
  obtain ⟨rfl, sc1, ar1, rfl, hs1, ha1, hR_1⟩ := hc9
  obtain ⟨⟨hs_1, hl_1⟩, hA_1, hZ_1, hW_1, hWr_1, hG_1⟩ := id hR_1
  have hS_1 : Same ruF sc sc1 := hs1
  have hT_1 : Same ruA ar ar1 := ha1
  refine RQ.seg 6 (pc' := 15) (L' := [some (.ref 26), some (.int (iI dp)), some (.int (iI 0)), none]) (st' := [.ref 26]) (g1 := (HW sc1 ar1 tx oc rl ou tl, q)) rfl ?_
  refine RQ.call rfl rfl (CallR.up (d := 1) (x_fine26f (d := 0) (sc := sc1) (ar := ar1) (by show -1 ≤ sc1 2602 ∧ sc1 2602 ≤ 200; omega) (by show ¬ sc1 2602 = -1; omega)) (by omega)) ?_
  refine RQ.seg 1 (pc' := 80) (L' := [some (.ref 26), some (.int (iI dp)), some (.int (iI 0)), none]) (st' := []) (g1 := (HW sc1 ar1 tx oc rl ou tl, q)) rfl ?_
  refine RQ.ret rfl rfl ?_
  exact ⟨rfl, _, _, rfl, Same.tr hS_1 (by repeat (first | exact Same.rf | refine Same.us rfl ?_)), Same.tr hT_1 (by repeat (first | exact Same.rf | refine Same.us rfl ?_)), RX.bad hR_1 hE rfl rfl (by show 0 ≤ sc1 2601 ∧ sc1 2601 ≤ _; omega) (by show 0 ≤ sc1 2701 ∧ sc1 2701 ≤ 161; omega) rfl⟩
theorem x_sumB {K : PK} {d : Nat} {sc : Nat → Int} {ar : Nat → Int → Int} {tx oc : Nat} {rl : Nat → Option Nat} {ou : Nat → Int64} {tl : List PO} {q : Nat × Nat} {dp : Int} (rdp : 0 ≤ dp ∧ dp ≤ 6) {tp : List Int} {r0 : RS} (ht : TpOK tp) (hR : RX tp r0 sc ar) (hE : ¬ r0.1 = -1) : CQ K (d + 4) 88 [.ref 26, .int (iI dp)] (HW sc ar tx oc rl ou tl, q) (QX tp r0 sc ar tx oc rl ou tl q) := by
  have ht1 := ht.1
  obtain ⟨⟨hs, hl⟩, hA, hZ, hW, hWr, hG⟩ := id hR
  refine CQ.of (own := 7) (n := 4) (ini := false) (rt := none) (cd := cd88) (by decide +kernel) rfl (by decide +kernel) rfl (Nat.le_of_ble_eq_true rfl) ?_
  refine RQ.seg 2 (pc' := 2) (L' := [some (.ref 26), some (.int (iI dp)), none, none]) (st' := [.int (iI dp), .ref 26]) (g1 := (HW sc ar tx oc rl ou tl, q)) rfl ?_
  refine RQ.callQ rfl rfl (CQ.up (x_termB (d := 0) (dp := dp) rdp ht hR hE) (by omega)) (fun rv g1 hc9 => ?_)
  obtain ⟨rfl, sc1, ar1, rfl, hs1, ha1, hR_1⟩ := hc9
  obtain ⟨⟨hs_1, hl_1⟩, hA_1, hZ_1, hW_1, hWr_1, hG_1⟩ := id hR_1
  have hS_1 : Same ruF sc sc1 := hs1
  have hT_1 : Same ruA ar ar1 := ha1
  refine RQ.seg 6 (pc' := 15) (L' := [some (.ref 26), some (.int (iI dp)), some (.int (iI 0)), none]) (st' := [.ref 26]) (g1 := (HW sc1 ar1 tx oc rl ou tl, q)) rfl ?_
  refine RQ.call rfl rfl (CallR.up (d := 1) (x_fine26f (d := 0) (sc := sc1) (ar := ar1) (by show -1 ≤ sc1 2602 ∧ sc1 2602 ≤ 200; omega) (by show ¬ sc1 2602 = -1; omega)) (by omega)) ?_
  refine RQ.seg 1 (pc' := 79) (L' := [some (.ref 26), some (.int (iI dp)), some (.int (iI 0)), none]) (st' := []) (g1 := (HW sc1 ar1 tx oc rl ou tl, q)) rfl ?_
  refine RQ.ret rfl rfl ?_
  exact ⟨rfl, _, _, rfl, Same.tr hS_1 (by repeat (first | exact Same.rf | refine Same.us rfl ?_)), Same.tr hT_1 (by repeat (first | exact Same.rf | refine Same.us rfl ?_)), RX.bad hR_1 hE rfl rfl (by show 0 ≤ sc1 2601 ∧ sc1 2601 ≤ _; omega) (by show 0 ≤ sc1 2701 ∧ sc1 2701 ≤ 161; omega) rfl⟩
theorem x_unitB0 {K : PK} {d : Nat} {sc : Nat → Int} {ar : Nat → Int → Int} {tx oc : Nat} {rl : Nat → Option Nat} {ou : Nat → Int64} {tl : List PO} {q : Nat × Nat} {dp : Int} (rdp : 0 ≤ dp ∧ dp ≤ 6) {tp : List Int} {r0 : RS} (ht : TpOK tp) (hR : RX tp r0 sc ar) (hE : ¬ r0.1 = -1) (hK13 : K 13 = some (3, zA kc13)) : CQ K (d + 6) 87 [.ref 26, .int (iI dp), .int (iI 0)] (HW sc ar tx oc rl ou tl, q) (QX tp r0 sc ar tx oc rl ou tl q) := by
  have ht1 := ht.1
  obtain ⟨⟨hs, hl⟩, hA, hZ, hW, hWr, hG⟩ := id hR
  refine CQ.of (own := 7) (n := 5) (ini := false) (rt := none) (cd := cd87) (by decide +kernel) rfl (by decide +kernel) rfl (Nat.le_of_ble_eq_true rfl) ?_
  refine RQ.seg 3 (pc' := 9) (L' := [some (.ref 26), some (.int (iI dp)), some (.int (iI 0)), none, none]) (st' := [.ref 26]) (g1 := (HW sc ar tx oc rl ou tl, q)) rfl ?_
  have hlr0 := tch_r ht (sk tp (sc 2601))
  have hsr0 := sk_r (tp := tp) (p := sc 2601) (by omega)
  have hlk0 : 0 ≤ lk tp (sc 2601) ∧ lk tp (sc 2601) ≤ 255 := hlr0
  refine RQ.call rfl rfl (CallR.up (d := 1) (x_look26 (d := 0) (sc := sc) (ar := ar) (a := sc 2601) ht hs hl rfl (by omega)) (by omega)) ?_
  refine RQ.seg 3 (pc' := 16) (L' := [some (.ref 26), some (.int (iI dp)), some (.int (iI 0)), some (.int (iI (lk tp (sc 2601)))), none]) (st' := [.int (iI 33), .int (iI (lk tp (sc 2601)))]) (g1 := (HW (usc sc 2601 (sk tp (sc 2601))) ar tx oc rl ou tl, q)) rfl ?_
  refine RQ.if2 (a := (lk tp (sc 2601))) (b := 33) rfl rfl rfl rfl (by omega) (by omega) (fun (h2 : lk tp (sc 2601) ≠ 33) => ?_) (fun (h2 : ¬ lk tp (sc 2601) ≠ 33) => ?_)
  · skip
    refine RQ.seg 2 (pc' := 50) (L' := [some (.ref 26), some (.int (iI dp)), some (.int (iI 0)), some (.int (iI (lk tp (sc 2601)))), none]) (st' := [.int (iI 40), .int (iI (lk tp (sc 2601)))]) (g1 := (HW (usc sc 2601 (sk tp (sc 2601))) ar tx oc rl ou tl, q)) rfl ?_
    refine RQ.if2 (a := (lk tp (sc 2601))) (b := 40) rfl rfl rfl rfl (by omega) (by omega) (fun (h3 : lk tp (sc 2601) ≠ 40) => ?_) (fun (h3 : ¬ lk tp (sc 2601) ≠ 40) => ?_)
    · skip
      refine RQ.seg 4 (pc' := 84) (L' := [some (.ref 26), some (.int (iI dp)), some (.int (iI 0)), some (.int (iI (lk tp (sc 2601)))), none]) (st' := [.int (iI dp), .ref 26]) (g1 := (HW (usc sc 2601 (sk tp (sc 2601))) ar tx oc rl ou tl, q)) rfl ?_
      refine RQ.callQ rfl rfl (CQ.up (x_sumB (d := 0) (dp := dp) rdp ht (RX.bad (sc' := usc sc 2601 (sk tp (sc 2601))) hR hE rfl rfl (by show 0 ≤ sk tp (sc 2601) ∧ sk tp (sc 2601) ≤ _; omega) (by show 0 ≤ sc 2701 ∧ sc 2701 ≤ 161; omega) rfl) hE) (by omega)) (fun rv g1 hc9 => ?_)
      obtain ⟨rfl, sc1, ar1, rfl, hs1, ha1, hR_1⟩ := hc9
      obtain ⟨⟨hs_1, hl_1⟩, hA_1, hZ_1, hW_1, hWr_1, hG_1⟩ := id hR_1
      have hS_1 : Same ruF sc sc1 := Same.tr Same.rf (Same.tr (by repeat (first | exact Same.rf | refine Same.us rfl ?_)) hs1)
      have hT_1 : Same ruA ar ar1 := Same.tr Same.rf (Same.tr (by repeat (first | exact Same.rf | refine Same.us rfl ?_)) ha1)
      refine RQ.seg 2 (pc' := 91) (L' := [some (.ref 26), some (.int (iI dp)), some (.int (iI 0)), some (.int (iI (lk tp (sc 2601)))), none]) (st' := [.ref 26, .retAddr 13]) (g1 := (HW sc1 ar1 tx oc rl ou tl, q)) rfl ?_
      have hlr3 := tch_r ht (sk tp (sc1 2601))
      have hsr3 := sk_r (tp := tp) (p := sc1 2601) (by omega)
      have hlk3 : 0 ≤ lk tp (sc1 2601) ∧ lk tp (sc1 2601) ≤ 255 := hlr3
      refine RQ.call rfl rfl (CallR.up (d := 1) (x_look26 (d := 0) (sc := sc1) (ar := ar1) (a := sc1 2601) ht hs_1 hl_1 rfl (by omega)) (by omega)) ?_
      refine RQ.call rfl rfl (CallR.up (d := 1) (x_place13 (d := 0) (c := lk tp (sc1 2601)) hK13 (by omega)) (by omega)) ?_
      refine RQ.seg 2 (pc' := 100) (L' := [some (.ref 26), some (.int (iI dp)), some (.int (iI 0)), some (.int (iI (lk tp (sc 2601)))), some (.int (iI (pcm (lk tp (sc1 2601)))))]) (st' := [.ref 26]) (g1 := (HW (usc sc1 2601 (sk tp (sc1 2601))) ar1 tx oc rl ou tl, q)) rfl ?_
      refine RQ.call rfl rfl (CallR.up (d := 1) (x_fine26f (d := 0) (sc := usc sc1 2601 (sk tp (sc1 2601))) (ar := ar1) (by show -1 ≤ sc1 2602 ∧ sc1 2602 ≤ 200; omega) (by show ¬ sc1 2602 = -1; omega)) (by omega)) ?_
      refine RQ.seg 4 (pc' := 117) (L' := [some (.ref 26), some (.int (iI dp)), some (.int (iI 0)), some (.int (iI (lk tp (sc 2601)))), some (.int (iI (pcm (lk tp (sc1 2601)))))]) (st' := [.int (iI (sk tp (sc1 2601))), .ref 26]) (g1 := (HW (usc sc1 2601 (sk tp (sc1 2601))) ar1 tx oc rl ou tl, q)) rfl ?_
      have hcall := CallR.up (d' := d + 5) (x_refuse26 (K := K) (d := 0) (tx := tx) (oc := oc) (rl := rl) (ou := ou) (tl := tl) (q := q) (sc := usc sc1 2601 (sk tp (sc1 2601))) (ar := ar1) (p := sk tp (sc1 2601)) (by show -1 ≤ sc1 2602 ∧ sc1 2602 ≤ 200; omega)) (by omega)
      rw [show (if (usc sc1 2601 (sk tp (sc1 2601))) 2602 = -1 then sk tp (sc1 2601) else (usc sc1 2601 (sk tp (sc1 2601))) 2602) = sc1 2602 from if_neg (by show ¬ sc1 2602 = -1; omega)] at hcall
      refine RQ.call rfl rfl (CallR.up hcall (by omega)) ?_
      refine RQ.ret rfl rfl ?_
      exact ⟨rfl, _, _, rfl, Same.tr hS_1 (by repeat (first | exact Same.rf | refine Same.us rfl ?_)), Same.tr hT_1 (by repeat (first | exact Same.rf | refine Same.us rfl ?_)), RX.bad hR_1 hE rfl rfl (by show 0 ≤ sk tp (sc1 2601) ∧ sk tp (sc1 2601) ≤ _; omega) (by show 0 ≤ sc1 2701 ∧ sc1 2701 ≤ 161; omega) rfl⟩
    · skip
      refine RQ.seg 2 (pc' := 55) (L' := [some (.ref 26), some (.int (iI dp)), some (.int (iI 0)), some (.int (iI (lk tp (sc 2601)))), none]) (st' := [.int (iI dp), .ref 26]) (g1 := (HW (usc sc 2601 (sk tp (sc 2601))) ar tx oc rl ou tl, q)) rfl ?_
      refine RQ.call rfl rfl (CallR.up (d := 2) (x_nest_b (d := 0) (sc := usc sc 2601 (sk tp (sc 2601))) (ar := ar) rdp (by show 0 ≤ sk tp (sc 2601) ∧ sk tp (sc 2601) ≤ 200; omega) (by show -1 ≤ sc 2602 ∧ sc 2602 ≤ 200; omega) (by show ¬ sc 2602 = -1; omega)) (by omega)) ?_
      refine RQ.seg 1 (pc' := 148) (L' := [some (.ref 26), some (.int (iI dp)), some (.int (iI 0)), some (.int (iI (lk tp (sc 2601)))), none]) (st' := []) (g1 := (HW (usc (usc sc 2601 (sk tp (sc 2601))) 2602 (sc 2602)) ar tx oc rl ou tl, q)) rfl ?_
      refine RQ.ret rfl rfl ?_
      exact ⟨rfl, _, _, rfl, by repeat (first | exact Same.rf | refine Same.us rfl ?_), by repeat (first | exact Same.rf | refine Same.us rfl ?_), RX.bad hR hE rfl rfl (by show 0 ≤ sk tp (sc 2601) ∧ sk tp (sc 2601) ≤ _; omega) (by show 0 ≤ sc 2701 ∧ sc 2701 ≤ 161; omega) rfl⟩
  · skip
    refine RQ.seg 2 (pc' := 21) (L' := [some (.ref 26), some (.int (iI dp)), some (.int (iI 0)), some (.int (iI (lk tp (sc 2601)))), none]) (st' := [.int (iI dp), .ref 26]) (g1 := (HW (usc sc 2601 (sk tp (sc 2601))) ar tx oc rl ou tl, q)) rfl ?_
    refine RQ.call rfl rfl (CallR.up (d := 2) (x_nest_b (d := 0) (sc := usc sc 2601 (sk tp (sc 2601))) (ar := ar) rdp (by show 0 ≤ sk tp (sc 2601) ∧ sk tp (sc 2601) ≤ 200; omega) (by show -1 ≤ sc 2602 ∧ sc 2602 ≤ 200; omega) (by show ¬ sc 2602 = -1; omega)) (by omega)) ?_
    refine RQ.seg 1 (pc' := 148) (L' := [some (.ref 26), some (.int (iI dp)), some (.int (iI 0)), some (.int (iI (lk tp (sc 2601)))), none]) (st' := []) (g1 := (HW (usc (usc sc 2601 (sk tp (sc 2601))) 2602 (sc 2602)) ar tx oc rl ou tl, q)) rfl ?_
    refine RQ.ret rfl rfl ?_
    exact ⟨rfl, _, _, rfl, by repeat (first | exact Same.rf | refine Same.us rfl ?_), by repeat (first | exact Same.rf | refine Same.us rfl ?_), RX.bad hR hE rfl rfl (by show 0 ≤ sk tp (sc 2601) ∧ sk tp (sc 2601) ≤ _; omega) (by show 0 ≤ sc 2701 ∧ sc 2701 ≤ 161; omega) rfl⟩
theorem x_unitB1 {K : PK} {d : Nat} {sc : Nat → Int} {ar : Nat → Int → Int} {tx oc : Nat} {rl : Nat → Option Nat} {ou : Nat → Int64} {tl : List PO} {q : Nat × Nat} {dp : Int} (rdp : 0 ≤ dp ∧ dp ≤ 6) {tp : List Int} {r0 : RS} (ht : TpOK tp) (hR : RX tp r0 sc ar) (hE : ¬ r0.1 = -1) (hK13 : K 13 = some (3, zA kc13)) : CQ K (d + 6) 87 [.ref 26, .int (iI dp), .int (iI 1)] (HW sc ar tx oc rl ou tl, q) (QX tp r0 sc ar tx oc rl ou tl q) := by
  have ht1 := ht.1
  obtain ⟨⟨hs, hl⟩, hA, hZ, hW, hWr, hG⟩ := id hR
  refine CQ.of (own := 7) (n := 5) (ini := false) (rt := none) (cd := cd87) (by decide +kernel) rfl (by decide +kernel) rfl (Nat.le_of_ble_eq_true rfl) ?_
  refine RQ.seg 15 (pc' := 91) (L' := [some (.ref 26), some (.int (iI dp)), some (.int (iI 1)), some (.int (iI 0)), none]) (st' := [.ref 26, .retAddr 13]) (g1 := (HW sc ar tx oc rl ou tl, q)) rfl ?_
  have hlr0 := tch_r ht (sk tp (sc 2601))
  have hsr0 := sk_r (tp := tp) (p := sc 2601) (by omega)
  have hlk0 : 0 ≤ lk tp (sc 2601) ∧ lk tp (sc 2601) ≤ 255 := hlr0
  refine RQ.call rfl rfl (CallR.up (d := 1) (x_look26 (d := 0) (sc := sc) (ar := ar) (a := sc 2601) ht hs hl rfl (by omega)) (by omega)) ?_
  refine RQ.call rfl rfl (CallR.up (d := 1) (x_place13 (d := 0) (c := lk tp (sc 2601)) hK13 (by omega)) (by omega)) ?_
  refine RQ.seg 2 (pc' := 100) (L' := [some (.ref 26), some (.int (iI dp)), some (.int (iI 1)), some (.int (iI 0)), some (.int (iI (pcm (lk tp (sc 2601)))))]) (st' := [.ref 26]) (g1 := (HW (usc sc 2601 (sk tp (sc 2601))) ar tx oc rl ou tl, q)) rfl ?_
  refine RQ.call rfl rfl (CallR.up (d := 1) (x_fine26f (d := 0) (sc := usc sc 2601 (sk tp (sc 2601))) (ar := ar) (by show -1 ≤ sc 2602 ∧ sc 2602 ≤ 200; omega) (by show ¬ sc 2602 = -1; omega)) (by omega)) ?_
  refine RQ.seg 4 (pc' := 117) (L' := [some (.ref 26), some (.int (iI dp)), some (.int (iI 1)), some (.int (iI 0)), some (.int (iI (pcm (lk tp (sc 2601)))))]) (st' := [.int (iI (sk tp (sc 2601))), .ref 26]) (g1 := (HW (usc sc 2601 (sk tp (sc 2601))) ar tx oc rl ou tl, q)) rfl ?_
  have hcall := CallR.up (d' := d + 5) (x_refuse26 (K := K) (d := 0) (tx := tx) (oc := oc) (rl := rl) (ou := ou) (tl := tl) (q := q) (sc := usc sc 2601 (sk tp (sc 2601))) (ar := ar) (p := sk tp (sc 2601)) (by show -1 ≤ sc 2602 ∧ sc 2602 ≤ 200; omega)) (by omega)
  rw [show (if (usc sc 2601 (sk tp (sc 2601))) 2602 = -1 then sk tp (sc 2601) else (usc sc 2601 (sk tp (sc 2601))) 2602) = sc 2602 from if_neg (by show ¬ sc 2602 = -1; omega)] at hcall
  refine RQ.call rfl rfl (CallR.up hcall (by omega)) ?_
  refine RQ.ret rfl rfl ?_
  exact ⟨rfl, _, _, rfl, by repeat (first | exact Same.rf | refine Same.us rfl ?_), by repeat (first | exact Same.rf | refine Same.us rfl ?_), RX.bad hR hE rfl rfl (by show 0 ≤ sk tp (sc 2601) ∧ sk tp (sc 2601) ≤ _; omega) (by show 0 ≤ sc 2701 ∧ sc 2701 ≤ 161; omega) rfl⟩
theorem x_truthB0 {K : PK} {d : Nat} {sc : Nat → Int} {ar : Nat → Int → Int} {tx oc : Nat} {rl : Nat → Option Nat} {ou : Nat → Int64} {tl : List PO} {q : Nat × Nat} {dp : Int} (rdp : 0 ≤ dp ∧ dp ≤ 6) {tp : List Int} {r0 : RS} (ht : TpOK tp) (hR : RX tp r0 sc ar) (hE : ¬ r0.1 = -1) (hK13 : K 13 = some (3, zA kc13)) : CQ K (d + 7) 86 [.ref 26, .int (iI dp), .int (iI 0)] (HW sc ar tx oc rl ou tl, q) (QX tp r0 sc ar tx oc rl ou tl q) := by
  have ht1 := ht.1
  obtain ⟨⟨hs, hl⟩, hA, hZ, hW, hWr, hG⟩ := id hR
  refine CQ.of (own := 7) (n := 4) (ini := false) (rt := none) (cd := cd86) (by decide +kernel) rfl (by decide +kernel) rfl (Nat.le_of_ble_eq_true rfl) ?_
  refine RQ.seg 3 (pc' := 3) (L' := [some (.ref 26), some (.int (iI dp)), some (.int (iI 0)), none]) (st' := [.int (iI 0), .int (iI dp), .ref 26]) (g1 := (HW sc ar tx oc rl ou tl, q)) rfl ?_
  refine RQ.callQ rfl rfl (CQ.up (x_unitB0 (d := 0) (dp := dp) rdp ht hR hE hK13) (by omega)) (fun rv g1 hc9 => ?_)
  obtain ⟨rfl, sc1, ar1, rfl, hs1, ha1, hR_1⟩ := hc9
  obtain ⟨⟨hs_1, hl_1⟩, hA_1, hZ_1, hW_1, hWr_1, hG_1⟩ := id hR_1
  have hS_1 : Same ruF sc sc1 := hs1
  have hT_1 : Same ruA ar ar1 := ha1
  refine RQ.seg 6 (pc' := 16) (L' := [some (.ref 26), some (.int (iI dp)), some (.int (iI 0)), some (.int (iI 0))]) (st' := [.ref 26]) (g1 := (HW sc1 ar1 tx oc rl ou tl, q)) rfl ?_
  refine RQ.call rfl rfl (CallR.up (d := 1) (x_fine26f (d := 0) (sc := sc1) (ar := ar1) (by show -1 ≤ sc1 2602 ∧ sc1 2602 ≤ 200; omega) (by show ¬ sc1 2602 = -1; omega)) (by omega)) ?_
  refine RQ.seg 1 (pc' := 62) (L' := [some (.ref 26), some (.int (iI dp)), some (.int (iI 0)), some (.int (iI 0))]) (st' := []) (g1 := (HW sc1 ar1 tx oc rl ou tl, q)) rfl ?_
  refine RQ.ret rfl rfl ?_
  exact ⟨rfl, _, _, rfl, Same.tr hS_1 (by repeat (first | exact Same.rf | refine Same.us rfl ?_)), Same.tr hT_1 (by repeat (first | exact Same.rf | refine Same.us rfl ?_)), RX.bad hR_1 hE rfl rfl (by show 0 ≤ sc1 2601 ∧ sc1 2601 ≤ _; omega) (by show 0 ≤ sc1 2701 ∧ sc1 2701 ≤ 161; omega) rfl⟩
theorem x_truthB1 {K : PK} {d : Nat} {sc : Nat → Int} {ar : Nat → Int → Int} {tx oc : Nat} {rl : Nat → Option Nat} {ou : Nat → Int64} {tl : List PO} {q : Nat × Nat} {dp : Int} (rdp : 0 ≤ dp ∧ dp ≤ 6) {tp : List Int} {r0 : RS} (ht : TpOK tp) (hR : RX tp r0 sc ar) (hE : ¬ r0.1 = -1) (hK13 : K 13 = some (3, zA kc13)) : CQ K (d + 7) 86 [.ref 26, .int (iI dp), .int (iI 1)] (HW sc ar tx oc rl ou tl, q) (QX tp r0 sc ar tx oc rl ou tl q) := by
  have ht1 := ht.1
  obtain ⟨⟨hs, hl⟩, hA, hZ, hW, hWr, hG⟩ := id hR
  refine CQ.of (own := 7) (n := 4) (ini := false) (rt := none) (cd := cd86) (by decide +kernel) rfl (by decide +kernel) rfl (Nat.le_of_ble_eq_true rfl) ?_
  refine RQ.seg 3 (pc' := 3) (L' := [some (.ref 26), some (.int (iI dp)), some (.int (iI 1)), none]) (st' := [.int (iI 1), .int (iI dp), .ref 26]) (g1 := (HW sc ar tx oc rl ou tl, q)) rfl ?_
  refine RQ.callQ rfl rfl (CQ.up (x_unitB1 (d := 0) (dp := dp) rdp ht hR hE hK13) (by omega)) (fun rv g1 hc9 => ?_)
  obtain ⟨rfl, sc1, ar1, rfl, hs1, ha1, hR_1⟩ := hc9
  obtain ⟨⟨hs_1, hl_1⟩, hA_1, hZ_1, hW_1, hWr_1, hG_1⟩ := id hR_1
  have hS_1 : Same ruF sc sc1 := hs1
  have hT_1 : Same ruA ar ar1 := ha1
  refine RQ.seg 6 (pc' := 16) (L' := [some (.ref 26), some (.int (iI dp)), some (.int (iI 1)), some (.int (iI 0))]) (st' := [.ref 26]) (g1 := (HW sc1 ar1 tx oc rl ou tl, q)) rfl ?_
  refine RQ.call rfl rfl (CallR.up (d := 1) (x_fine26f (d := 0) (sc := sc1) (ar := ar1) (by show -1 ≤ sc1 2602 ∧ sc1 2602 ≤ 200; omega) (by show ¬ sc1 2602 = -1; omega)) (by omega)) ?_
  refine RQ.seg 1 (pc' := 62) (L' := [some (.ref 26), some (.int (iI dp)), some (.int (iI 1)), some (.int (iI 0))]) (st' := []) (g1 := (HW sc1 ar1 tx oc rl ou tl, q)) rfl ?_
  refine RQ.ret rfl rfl ?_
  exact ⟨rfl, _, _, rfl, Same.tr hS_1 (by repeat (first | exact Same.rf | refine Same.us rfl ?_)), Same.tr hT_1 (by repeat (first | exact Same.rf | refine Same.us rfl ?_)), RX.bad hR_1 hE rfl rfl (by show 0 ≤ sc1 2601 ∧ sc1 2601 ≤ _; omega) (by show 0 ≤ sc1 2701 ∧ sc1 2701 ≤ 161; omega) rfl⟩
theorem x_condB0 {K : PK} {d : Nat} {sc : Nat → Int} {ar : Nat → Int → Int} {tx oc : Nat} {rl : Nat → Option Nat} {ou : Nat → Int64} {tl : List PO} {q : Nat × Nat} {dp : Int} (rdp : 0 ≤ dp ∧ dp ≤ 6) {tp : List Int} {r0 : RS} (ht : TpOK tp) (hR : RX tp r0 sc ar) (hE : ¬ r0.1 = -1) (hK13 : K 13 = some (3, zA kc13)) : CQ K (d + 8) 85 [.ref 26, .int (iI dp), .int (iI 0)] (HW sc ar tx oc rl ou tl, q) (QX tp r0 sc ar tx oc rl ou tl q) := by
  have ht1 := ht.1
  obtain ⟨⟨hs, hl⟩, hA, hZ, hW, hWr, hG⟩ := id hR
  refine CQ.of (own := 7) (n := 4) (ini := false) (rt := none) (cd := cd85) (by decide +kernel) rfl (by decide +kernel) rfl (Nat.le_of_ble_eq_true rfl) ?_
  refine RQ.seg 3 (pc' := 3) (L' := [some (.ref 26), some (.int (iI dp)), some (.int (iI 0)), none]) (st' := [.int (iI 0), .int (iI dp), .ref 26]) (g1 := (HW sc ar tx oc rl ou tl, q)) rfl ?_
  refine RQ.callQ rfl rfl (CQ.up (x_truthB0 (d := 0) (dp := dp) rdp ht hR hE hK13) (by omega)) (fun rv g1 hc9 => ?_)
  obtain ⟨rfl, sc1, ar1, rfl, hs1, ha1, hR_1⟩ := hc9
  obtain ⟨⟨hs_1, hl_1⟩, hA_1, hZ_1, hW_1, hWr_1, hG_1⟩ := id hR_1
  have hS_1 : Same ruF sc sc1 := hs1
  have hT_1 : Same ruA ar ar1 := ha1
  refine RQ.seg 6 (pc' := 16) (L' := [some (.ref 26), some (.int (iI dp)), some (.int (iI 0)), some (.int (iI 0))]) (st' := [.ref 26]) (g1 := (HW sc1 ar1 tx oc rl ou tl, q)) rfl ?_
  refine RQ.call rfl rfl (CallR.up (d := 1) (x_fine26f (d := 0) (sc := sc1) (ar := ar1) (by show -1 ≤ sc1 2602 ∧ sc1 2602 ≤ 200; omega) (by show ¬ sc1 2602 = -1; omega)) (by omega)) ?_
  refine RQ.seg 1 (pc' := 62) (L' := [some (.ref 26), some (.int (iI dp)), some (.int (iI 0)), some (.int (iI 0))]) (st' := []) (g1 := (HW sc1 ar1 tx oc rl ou tl, q)) rfl ?_
  refine RQ.ret rfl rfl ?_
  exact ⟨rfl, _, _, rfl, Same.tr hS_1 (by repeat (first | exact Same.rf | refine Same.us rfl ?_)), Same.tr hT_1 (by repeat (first | exact Same.rf | refine Same.us rfl ?_)), RX.bad hR_1 hE rfl rfl (by show 0 ≤ sc1 2601 ∧ sc1 2601 ≤ _; omega) (by show 0 ≤ sc1 2701 ∧ sc1 2701 ≤ 161; omega) rfl⟩
theorem x_condB1 {K : PK} {d : Nat} {sc : Nat → Int} {ar : Nat → Int → Int} {tx oc : Nat} {rl : Nat → Option Nat} {ou : Nat → Int64} {tl : List PO} {q : Nat × Nat} {dp : Int} (rdp : 0 ≤ dp ∧ dp ≤ 6) {tp : List Int} {r0 : RS} (ht : TpOK tp) (hR : RX tp r0 sc ar) (hE : ¬ r0.1 = -1) (hK13 : K 13 = some (3, zA kc13)) : CQ K (d + 8) 85 [.ref 26, .int (iI dp), .int (iI 1)] (HW sc ar tx oc rl ou tl, q) (QX tp r0 sc ar tx oc rl ou tl q) := by
  have ht1 := ht.1
  obtain ⟨⟨hs, hl⟩, hA, hZ, hW, hWr, hG⟩ := id hR
  refine CQ.of (own := 7) (n := 4) (ini := false) (rt := none) (cd := cd85) (by decide +kernel) rfl (by decide +kernel) rfl (Nat.le_of_ble_eq_true rfl) ?_
  refine RQ.seg 3 (pc' := 3) (L' := [some (.ref 26), some (.int (iI dp)), some (.int (iI 1)), none]) (st' := [.int (iI 1), .int (iI dp), .ref 26]) (g1 := (HW sc ar tx oc rl ou tl, q)) rfl ?_
  refine RQ.callQ rfl rfl (CQ.up (x_truthB1 (d := 0) (dp := dp) rdp ht hR hE hK13) (by omega)) (fun rv g1 hc9 => ?_)
  obtain ⟨rfl, sc1, ar1, rfl, hs1, ha1, hR_1⟩ := hc9
  obtain ⟨⟨hs_1, hl_1⟩, hA_1, hZ_1, hW_1, hWr_1, hG_1⟩ := id hR_1
  have hS_1 : Same ruF sc sc1 := hs1
  have hT_1 : Same ruA ar ar1 := ha1
  refine RQ.seg 6 (pc' := 16) (L' := [some (.ref 26), some (.int (iI dp)), some (.int (iI 1)), some (.int (iI 0))]) (st' := [.ref 26]) (g1 := (HW sc1 ar1 tx oc rl ou tl, q)) rfl ?_
  refine RQ.call rfl rfl (CallR.up (d := 1) (x_fine26f (d := 0) (sc := sc1) (ar := ar1) (by show -1 ≤ sc1 2602 ∧ sc1 2602 ≤ 200; omega) (by show ¬ sc1 2602 = -1; omega)) (by omega)) ?_
  refine RQ.seg 1 (pc' := 62) (L' := [some (.ref 26), some (.int (iI dp)), some (.int (iI 1)), some (.int (iI 0))]) (st' := []) (g1 := (HW sc1 ar1 tx oc rl ou tl, q)) rfl ?_
  refine RQ.ret rfl rfl ?_
  exact ⟨rfl, _, _, rfl, Same.tr hS_1 (by repeat (first | exact Same.rf | refine Same.us rfl ?_)), Same.tr hT_1 (by repeat (first | exact Same.rf | refine Same.us rfl ?_)), RX.bad hR_1 hE rfl rfl (by show 0 ≤ sc1 2601 ∧ sc1 2601 ≤ _; omega) (by show 0 ≤ sc1 2701 ∧ sc1 2701 ≤ 161; omega) rfl⟩
