/-! what ladders reach, both sides, by wip/tools -/
/-- a front: windows (column, height, children, fire), brigades (arrives, length, pace) -/
def FrOK (nw nb : Int) (W B : Int → Int → Int) : Prop := (0 ≤ nw ∧ nw ≤ 4 ∧ 0 ≤ nb ∧ nb ≤ 3) ∧ (∀ w, 0 ≤ w → w < nw → 0 ≤ W w 0 ∧ W w 0 ≤ 5 ∧ 1 ≤ W w 1 ∧ W w 1 ≤ 9 ∧ 0 ≤ W w 2 ∧ W w 2 ≤ 9 ∧ 1 ≤ W w 3 ∧ W w 3 ≤ 60) ∧ (∀ b, 0 ≤ b → b < nb → 0 ≤ B b 0 ∧ B b 0 ≤ 30 ∧ 1 ≤ B b 1 ∧ B b 1 ≤ 12 ∧ 1 ≤ B b 2 ∧ B b 2 ≤ 5)
/-- how the reference holds it -/
def FrM (a b : Int) (f g : Int → Int) (nw nb : Int) (W B : Int → Int → Int) : Prop := a = nw ∧ b = nb ∧ (∀ w, 0 ≤ w → w < nw → f (4 * w) = W w 0 ∧ f (4 * w + 1) = W w 1 ∧ f (4 * w + 2) = W w 2 ∧ f (4 * w + 3) = W w 3) ∧ (∀ b, 0 ≤ b → b < nb → g (3 * b) = B b 0 ∧ g (3 * b + 1) = B b 1 ∧ g (3 * b + 2) = B b 2)
/-- how the class holds it -/
def FrX (a b : Int) (f0 f1 f2 f3 g0 g1 g2 : Int → Int) (nw nb : Int) (W B : Int → Int → Int) : Prop := a = nw ∧ b = nb ∧ (∀ j, 0 ≤ j → j < 4 → (0 < nw → f0 j = W 0 j) ∧ (1 < nw → f1 j = W 1 j) ∧ (2 < nw → f2 j = W 2 j) ∧ (3 < nw → f3 j = W 3 j)) ∧ (∀ j, 0 ≤ j → j < 3 → (0 < nb → g0 j = B 0 j) ∧ (1 < nb → g1 j = B 1 j) ∧ (2 < nb → g2 j = B 2 j))
section FrReads
variable {a b nw nb w j : Int} {f g f0 f1 f2 f3 g0 g1 g2 : Int → Int} {W B : Int → Int → Int} {ar : Nat → Int → Int}
theorem frm_w0 (h : FrM a b f g nw nb W B) (h0 : 0 ≤ w) (h1 : w < nw) : f (4 * w) = W w 0 := (h.2.2.1 w h0 h1).1
theorem frm_w1 (h : FrM a b f g nw nb W B) (h0 : 0 ≤ w) (h1 : w < nw) : f (4 * w + 1) = W w 1 := (h.2.2.1 w h0 h1).2.1
theorem frm_w2 (h : FrM a b f g nw nb W B) (h0 : 0 ≤ w) (h1 : w < nw) : f (4 * w + 2) = W w 2 := (h.2.2.1 w h0 h1).2.2.1
theorem frm_w3 (h : FrM a b f g nw nb W B) (h0 : 0 ≤ w) (h1 : w < nw) : f (4 * w + 3) = W w 3 := (h.2.2.1 w h0 h1).2.2.2
theorem frm_b0 (h : FrM a b f g nw nb W B) (h0 : 0 ≤ w) (h1 : w < nb) : g (3 * w) = B w 0 := (h.2.2.2 w h0 h1).1
theorem frm_b1 (h : FrM a b f g nw nb W B) (h0 : 0 ≤ w) (h1 : w < nb) : g (3 * w + 1) = B w 1 := (h.2.2.2 w h0 h1).2.1
theorem frm_b2 (h : FrM a b f g nw nb W B) (h0 : 0 ≤ w) (h1 : w < nb) : g (3 * w + 2) = B w 2 := (h.2.2.2 w h0 h1).2.2
theorem frx_w (h : FrX a b (ar 5) (ar 6) (ar 7) (ar 8) g0 g1 g2 nw nb W B) (h0 : 0 ≤ w) (h1 : w < nw) (j0 : 0 ≤ j) (j1 : j < 4) (hn : nw ≤ 4) : ar (5 + w.toNat) j = W w j := by
  have q := h.2.2.1 j j0 j1
  rcases (show w = 0 ∨ w = 1 ∨ w = 2 ∨ w = 3 by omega) with rfl | rfl | rfl | rfl
  · exact q.1 h1
  · exact q.2.1 h1
  · exact q.2.2.1 h1
  · exact q.2.2.2 h1
theorem frx_b (h : FrX a b f0 f1 f2 f3 (ar 10) (ar 11) (ar 12) nw nb W B) (h0 : 0 ≤ w) (h1 : w < nb) (j0 : 0 ≤ j) (j1 : j < 3) (hn : nb ≤ 3) : ar (10 + w.toNat) j = B w j := by
  have q := h.2.2.2 j j0 j1
  rcases (show w = 0 ∨ w = 1 ∨ w = 2 by omega) with rfl | rfl | rfl
  · exact q.1 h1
  · exact q.2.1 h1
  · exact q.2.2 h1
end FrReads
/-- a ladder of a length gets from a place to a window -/
abbrev rch (W : Int → Int → Int) (l p w : Int) : Prop := (p - W w 0) * (p - W w 0) + W w 1 * W w 1 ≤ l * l
abbrev may (nw : Int) (W B : Int → Int → Int) (b p : Int) : Prop := p = 99 ∨ (0 ≤ p ∧ p / 10 < 6 ∧ p % 10 < nw ∧ rch W (B b 1) (p / 10) (p % 10))
theorem sqb {a n : Int} (h : -n ≤ a ∧ a ≤ n) : 0 ≤ a * a ∧ a * a ≤ n * n := by
  constructor
  · rcases Int.le_total 0 a with h0 | h0
    · exact Int.mul_nonneg h0 h0
    · have := Int.mul_nonneg (a := -a) (b := -a) (by omega) (by omega)
      rw [Int.neg_mul_neg] at this
      exact this
  · rcases Int.le_total 0 a with h0 | h0
    · exact Int.mul_le_mul h.2 h.2 h0 (by omega)
    · have := Int.mul_le_mul (a := -a) (b := -a) (c := n) (d := n) (by omega) (by omega) (by omega) (by omega)
      rw [Int.neg_mul_neg] at this
      exact this
theorem m_isBrN_t {K : PK} {d : Nat} {sc : Nat → Int} {ar : Nat → Int → Int} {tx oc : Nat} {rl : Nat → Option Nat} {ou : Nat → Int64} {tl : List PO} {q : Nat × Nat} {nw nb : Int} {W B : Int → Int → Int} {b : Int} (rb : -2147483648 ≤ b ∧ b < 2147483648) (hM : FrM (sc 8024) (sc 8025) (ar 85) (ar 86) nw nb W B) (hF : FrOK nw nb W B) (hP : 0 ≤ b ∧ b < nb) : CallR K (d + 1) 184 [.ref 80, .int (iI b)] (HW sc ar tx oc rl ou tl, q) (some (.int (iI 1))) (HW sc ar tx oc rl ou tl, q) := by
  apply CQ.x
  have hn := hF.1
  have hm1 := hM.1
  have hm2 := hM.2.1
  refine CQ.of (own := 11) (n := 2) (ini := false) (rt := (some .boolean)) (cd := cd184) (by decide +kernel) rfl (by decide +kernel) rfl (Nat.le_of_ble_eq_true rfl) ?_
  refine RQ.seg 1 (pc' := 1) (L' := [some (.ref 80), some (.int (iI b))]) (st' := [.int (iI b)]) (g1 := (HW sc ar tx oc rl ou tl, q)) rfl ?_
  refine RQ.if1 (a := b) rfl rfl rfl (by omega) (fun (h1 : b < 0) => ?_) (fun (h1 : ¬ b < 0) => ?_)
  · skip
    refine RQ.seg 1 (pc' := 17) (L' := [some (.ref 80), some (.int (iI b))]) (st' := [.int (iI 0)]) (g1 := (HW sc ar tx oc rl ou tl, q)) rfl ?_
    refine RQ.ret rfl rfl ?_
    exfalso; omega
  · skip
    refine RQ.seg 3 (pc' := 9) (L' := [some (.ref 80), some (.int (iI b))]) (st' := [.int (iI (sc 8025)), .int (iI b)]) (g1 := (HW sc ar tx oc rl ou tl, q)) rfl ?_
    refine RQ.if2 (a := b) (b := (sc 8025)) rfl rfl rfl rfl (by omega) (by omega) (fun (h2 : sc 8025 ≤ b) => ?_) (fun (h2 : ¬ sc 8025 ≤ b) => ?_)
    · skip
      refine RQ.seg 1 (pc' := 17) (L' := [some (.ref 80), some (.int (iI b))]) (st' := [.int (iI 0)]) (g1 := (HW sc ar tx oc rl ou tl, q)) rfl ?_
      refine RQ.ret rfl rfl ?_
      exfalso; omega
    · skip
      refine RQ.seg 2 (pc' := 17) (L' := [some (.ref 80), some (.int (iI b))]) (st' := [.int (iI 1)]) (g1 := (HW sc ar tx oc rl ou tl, q)) rfl ?_
      refine RQ.ret rfl rfl ?_
      exact ⟨rfl, rfl⟩
theorem m_isBrN_f {K : PK} {d : Nat} {sc : Nat → Int} {ar : Nat → Int → Int} {tx oc : Nat} {rl : Nat → Option Nat} {ou : Nat → Int64} {tl : List PO} {q : Nat × Nat} {nw nb : Int} {W B : Int → Int → Int} {b : Int} (rb : -2147483648 ≤ b ∧ b < 2147483648) (hM : FrM (sc 8024) (sc 8025) (ar 85) (ar 86) nw nb W B) (hF : FrOK nw nb W B) (hP : ¬ (0 ≤ b ∧ b < nb)) : CallR K (d + 1) 184 [.ref 80, .int (iI b)] (HW sc ar tx oc rl ou tl, q) (some (.int (iI 0))) (HW sc ar tx oc rl ou tl, q) := by
  apply CQ.x
  have hn := hF.1
  have hm1 := hM.1
  have hm2 := hM.2.1
  refine CQ.of (own := 11) (n := 2) (ini := false) (rt := (some .boolean)) (cd := cd184) (by decide +kernel) rfl (by decide +kernel) rfl (Nat.le_of_ble_eq_true rfl) ?_
  refine RQ.seg 1 (pc' := 1) (L' := [some (.ref 80), some (.int (iI b))]) (st' := [.int (iI b)]) (g1 := (HW sc ar tx oc rl ou tl, q)) rfl ?_
  refine RQ.if1 (a := b) rfl rfl rfl (by omega) (fun (h1 : b < 0) => ?_) (fun (h1 : ¬ b < 0) => ?_)
  · skip
    refine RQ.seg 1 (pc' := 17) (L' := [some (.ref 80), some (.int (iI b))]) (st' := [.int (iI 0)]) (g1 := (HW sc ar tx oc rl ou tl, q)) rfl ?_
    refine RQ.ret rfl rfl ?_
    exact ⟨rfl, rfl⟩
  · skip
    refine RQ.seg 3 (pc' := 9) (L' := [some (.ref 80), some (.int (iI b))]) (st' := [.int (iI (sc 8025)), .int (iI b)]) (g1 := (HW sc ar tx oc rl ou tl, q)) rfl ?_
    refine RQ.if2 (a := b) (b := (sc 8025)) rfl rfl rfl rfl (by omega) (by omega) (fun (h2 : sc 8025 ≤ b) => ?_) (fun (h2 : ¬ sc 8025 ≤ b) => ?_)
    · skip
      refine RQ.seg 1 (pc' := 17) (L' := [some (.ref 80), some (.int (iI b))]) (st' := [.int (iI 0)]) (g1 := (HW sc ar tx oc rl ou tl, q)) rfl ?_
      refine RQ.ret rfl rfl ?_
      exact ⟨rfl, rfl⟩
    · skip
      refine RQ.seg 2 (pc' := 17) (L' := [some (.ref 80), some (.int (iI b))]) (st' := [.int (iI 1)]) (g1 := (HW sc ar tx oc rl ou tl, q)) rfl ?_
      refine RQ.ret rfl rfl ?_
      exfalso; omega
theorem m_rch_t {K : PK} {d : Nat} {sc : Nat → Int} {ar : Nat → Int → Int} {tx oc : Nat} {rl : Nat → Option Nat} {ou : Nat → Int64} {tl : List PO} {q : Nat × Nat} {l p w : Int} {nw nb : Int} {W B : Int → Int → Int} (hF : FrOK nw nb W B) (hM : FrM (sc 8024) (sc 8025) (ar 85) (ar 86) nw nb W B) (hl : 0 ≤ l ∧ l ≤ 30) (hp : -50 ≤ p ∧ p ≤ 50) (hw0 : 0 ≤ w ∧ w < nw) (hP : rch W l p w) : CallR K (d + 1) 190 [.ref 80, .int (iI l), .int (iI p), .int (iI w)] (HW sc ar tx oc rl ou tl, q) (some (.int (iI 1))) (HW sc ar tx oc rl ou tl, q) := by
  apply CQ.x
  have hn := hF.1
  have hm1 := hM.1
  have hm2 := hM.2.1
  have hw := hF.2.1 w hw0.1 hw0.2
  have q1 := sqb (a := p - W w 0) (n := 60) (by omega)
  have q2 := sqb (a := W w 1) (n := 60) (by omega)
  have q3 := sqb (a := l) (n := 60) (by omega)
  refine CQ.of (own := 11) (n := 5) (ini := false) (rt := (some .boolean)) (cd := cd190) (by decide +kernel) rfl (by decide +kernel) rfl (Nat.le_of_ble_eq_true rfl) ?_
  refine RQ.seg 6 (pc' := 8) (L' := [some (.ref 80), some (.int (iI l)), some (.int (iI p)), some (.int (iI w)), none]) (st' := [.int ((iI 4) * (iI w)), .ref 85, .int (iI p)]) (g1 := (HW sc ar tx oc rl ou tl, q)) rfl ?_
  have hf1 := hF.2.1 w (by omega) (by omega)
  refine RQ.ialdv (z := (4 * w)) (v := (W w 0)) rfl (by simp only [iI_add, iI_sub, iI_mul, iI_neg]) rfl (by omega) (by decide) (frm_w0 hM (by omega) (by omega)) ?_
  refine RQ.seg 12 (pc' := 26) (L' := [some (.ref 80), some (.int (iI l)), some (.int (iI p)), some (.int (iI w)), some (.int ((iI p) - (iI (W w 0))))]) (st' := [.int (((iI 4) * (iI w)) + (iI 1)), .ref 85, .int (((iI p) - (iI (W w 0))) * ((iI p) - (iI (W w 0))))]) (g1 := (HW sc ar tx oc rl ou tl, q)) rfl ?_
  refine RQ.ialdv (z := (4 * w + 1)) (v := (W w 1)) rfl (by simp only [iI_add, iI_sub, iI_mul, iI_neg]) rfl (by omega) (by decide) (frm_w1 hM (by omega) (by omega)) ?_
  refine RQ.seg 7 (pc' := 36) (L' := [some (.ref 80), some (.int (iI l)), some (.int (iI p)), some (.int (iI w)), some (.int ((iI p) - (iI (W w 0))))]) (st' := [.int (((iI 4) * (iI w)) + (iI 1)), .ref 85, .int (iI (W w 1)), .int (((iI p) - (iI (W w 0))) * ((iI p) - (iI (W w 0))))]) (g1 := (HW sc ar tx oc rl ou tl, q)) rfl ?_
  refine RQ.ialdv (z := (4 * w + 1)) (v := (W w 1)) rfl (by simp only [iI_add, iI_sub, iI_mul, iI_neg]) rfl (by omega) (by decide) (frm_w1 hM (by omega) (by omega)) ?_
  refine RQ.seg 5 (pc' := 42) (L' := [some (.ref 80), some (.int (iI l)), some (.int (iI p)), some (.int (iI w)), some (.int ((iI p) - (iI (W w 0))))]) (st' := [.int ((iI l) * (iI l)), .int ((((iI p) - (iI (W w 0))) * ((iI p) - (iI (W w 0)))) + ((iI (W w 1)) * (iI (W w 1))))]) (g1 := (HW sc ar tx oc rl ou tl, q)) rfl ?_
  refine RQ.if2 (a := ((p - (W w 0)) * (p - (W w 0)) + ((W w 1) * (W w 1)))) (b := (l * l)) rfl rfl (by simp only [iI_add, iI_sub, iI_mul, iI_neg]) (by simp only [iI_add, iI_sub, iI_mul, iI_neg]) (by omega) (by omega) (fun (h1 : l * l < (p - (W w 0)) * (p - (W w 0)) + ((W w 1) * (W w 1))) => ?_) (fun (h1 : ¬ l * l < (p - (W w 0)) * (p - (W w 0)) + ((W w 1) * (W w 1))) => ?_)
  · skip
    refine RQ.seg 1 (pc' := 50) (L' := [some (.ref 80), some (.int (iI l)), some (.int (iI p)), some (.int (iI w)), some (.int ((iI p) - (iI (W w 0))))]) (st' := [.int (iI 0)]) (g1 := (HW sc ar tx oc rl ou tl, q)) rfl ?_
    refine RQ.to (L' := [some (.ref 80), some (.int (iI l)), some (.int (iI p)), some (.int (iI w)), some (.int (iI (p - (W w 0))))]) (st' := [.int (iI 0)]) (by simp only [iI_add, iI_sub, iI_mul, iI_neg]) rfl ?_
    refine RQ.ret rfl rfl ?_
    exfalso; omega
  · skip
    refine RQ.seg 2 (pc' := 50) (L' := [some (.ref 80), some (.int (iI l)), some (.int (iI p)), some (.int (iI w)), some (.int ((iI p) - (iI (W w 0))))]) (st' := [.int (iI 1)]) (g1 := (HW sc ar tx oc rl ou tl, q)) rfl ?_
    refine RQ.to (L' := [some (.ref 80), some (.int (iI l)), some (.int (iI p)), some (.int (iI w)), some (.int (iI (p - (W w 0))))]) (st' := [.int (iI 1)]) (by simp only [iI_add, iI_sub, iI_mul, iI_neg]) rfl ?_
    refine RQ.ret rfl rfl ?_
    exact ⟨rfl, rfl⟩
theorem m_rch_f {K : PK} {d : Nat} {sc : Nat → Int} {ar : Nat → Int → Int} {tx oc : Nat} {rl : Nat → Option Nat} {ou : Nat → Int64} {tl : List PO} {q : Nat × Nat} {l p w : Int} {nw nb : Int} {W B : Int → Int → Int} (hF : FrOK nw nb W B) (hM : FrM (sc 8024) (sc 8025) (ar 85) (ar 86) nw nb W B) (hl : 0 ≤ l ∧ l ≤ 30) (hp : -50 ≤ p ∧ p ≤ 50) (hw0 : 0 ≤ w ∧ w < nw) (hP : ¬ (rch W l p w)) : CallR K (d + 1) 190 [.ref 80, .int (iI l), .int (iI p), .int (iI w)] (HW sc ar tx oc rl ou tl, q) (some (.int (iI 0))) (HW sc ar tx oc rl ou tl, q) := by
  apply CQ.x
  have hn := hF.1
  have hm1 := hM.1
  have hm2 := hM.2.1
  have hw := hF.2.1 w hw0.1 hw0.2
  have q1 := sqb (a := p - W w 0) (n := 60) (by omega)
  have q2 := sqb (a := W w 1) (n := 60) (by omega)
  have q3 := sqb (a := l) (n := 60) (by omega)
  refine CQ.of (own := 11) (n := 5) (ini := false) (rt := (some .boolean)) (cd := cd190) (by decide +kernel) rfl (by decide +kernel) rfl (Nat.le_of_ble_eq_true rfl) ?_
  refine RQ.seg 6 (pc' := 8) (L' := [some (.ref 80), some (.int (iI l)), some (.int (iI p)), some (.int (iI w)), none]) (st' := [.int ((iI 4) * (iI w)), .ref 85, .int (iI p)]) (g1 := (HW sc ar tx oc rl ou tl, q)) rfl ?_
  have hf1 := hF.2.1 w (by omega) (by omega)
  refine RQ.ialdv (z := (4 * w)) (v := (W w 0)) rfl (by simp only [iI_add, iI_sub, iI_mul, iI_neg]) rfl (by omega) (by decide) (frm_w0 hM (by omega) (by omega)) ?_
  refine RQ.seg 12 (pc' := 26) (L' := [some (.ref 80), some (.int (iI l)), some (.int (iI p)), some (.int (iI w)), some (.int ((iI p) - (iI (W w 0))))]) (st' := [.int (((iI 4) * (iI w)) + (iI 1)), .ref 85, .int (((iI p) - (iI (W w 0))) * ((iI p) - (iI (W w 0))))]) (g1 := (HW sc ar tx oc rl ou tl, q)) rfl ?_
  refine RQ.ialdv (z := (4 * w + 1)) (v := (W w 1)) rfl (by simp only [iI_add, iI_sub, iI_mul, iI_neg]) rfl (by omega) (by decide) (frm_w1 hM (by omega) (by omega)) ?_
  refine RQ.seg 7 (pc' := 36) (L' := [some (.ref 80), some (.int (iI l)), some (.int (iI p)), some (.int (iI w)), some (.int ((iI p) - (iI (W w 0))))]) (st' := [.int (((iI 4) * (iI w)) + (iI 1)), .ref 85, .int (iI (W w 1)), .int (((iI p) - (iI (W w 0))) * ((iI p) - (iI (W w 0))))]) (g1 := (HW sc ar tx oc rl ou tl, q)) rfl ?_
  refine RQ.ialdv (z := (4 * w + 1)) (v := (W w 1)) rfl (by simp only [iI_add, iI_sub, iI_mul, iI_neg]) rfl (by omega) (by decide) (frm_w1 hM (by omega) (by omega)) ?_
  refine RQ.seg 5 (pc' := 42) (L' := [some (.ref 80), some (.int (iI l)), some (.int (iI p)), some (.int (iI w)), some (.int ((iI p) - (iI (W w 0))))]) (st' := [.int ((iI l) * (iI l)), .int ((((iI p) - (iI (W w 0))) * ((iI p) - (iI (W w 0)))) + ((iI (W w 1)) * (iI (W w 1))))]) (g1 := (HW sc ar tx oc rl ou tl, q)) rfl ?_
  refine RQ.if2 (a := ((p - (W w 0)) * (p - (W w 0)) + ((W w 1) * (W w 1)))) (b := (l * l)) rfl rfl (by simp only [iI_add, iI_sub, iI_mul, iI_neg]) (by simp only [iI_add, iI_sub, iI_mul, iI_neg]) (by omega) (by omega) (fun (h1 : l * l < (p - (W w 0)) * (p - (W w 0)) + ((W w 1) * (W w 1))) => ?_) (fun (h1 : ¬ l * l < (p - (W w 0)) * (p - (W w 0)) + ((W w 1) * (W w 1))) => ?_)
  · skip
    refine RQ.seg 1 (pc' := 50) (L' := [some (.ref 80), some (.int (iI l)), some (.int (iI p)), some (.int (iI w)), some (.int ((iI p) - (iI (W w 0))))]) (st' := [.int (iI 0)]) (g1 := (HW sc ar tx oc rl ou tl, q)) rfl ?_
    refine RQ.to (L' := [some (.ref 80), some (.int (iI l)), some (.int (iI p)), some (.int (iI w)), some (.int (iI (p - (W w 0))))]) (st' := [.int (iI 0)]) (by simp only [iI_add, iI_sub, iI_mul, iI_neg]) rfl ?_
    refine RQ.ret rfl rfl ?_
    exact ⟨rfl, rfl⟩
  · skip
    refine RQ.seg 2 (pc' := 50) (L' := [some (.ref 80), some (.int (iI l)), some (.int (iI p)), some (.int (iI w)), some (.int ((iI p) - (iI (W w 0))))]) (st' := [.int (iI 1)]) (g1 := (HW sc ar tx oc rl ou tl, q)) rfl ?_
    refine RQ.to (L' := [some (.ref 80), some (.int (iI l)), some (.int (iI p)), some (.int (iI w)), some (.int (iI (p - (W w 0))))]) (st' := [.int (iI 1)]) (by simp only [iI_add, iI_sub, iI_mul, iI_neg]) rfl ?_
    refine RQ.ret rfl rfl ?_
    exfalso; omega
theorem x_isBrN_t {K : PK} {d : Nat} {sc : Nat → Int} {ar : Nat → Int → Int} {tx oc : Nat} {rl : Nat → Option Nat} {ou : Nat → Int64} {tl : List PO} {q : Nat × Nat} {nw nb : Int} {W B : Int → Int → Int} {b : Int} (rb : -2147483648 ≤ b ∧ b < 2147483648) (hX : FrX (sc 303) (sc 304) (ar 5) (ar 6) (ar 7) (ar 8) (ar 10) (ar 11) (ar 12) nw nb W B) (hF : FrOK nw nb W B) (hP : 0 ≤ b ∧ b < nb) : CallR K (d + 1) 139 [.ref 0, .int (iI b)] (HW sc ar tx oc rl ou tl, q) (some (.int (iI 1))) (HW sc ar tx oc rl ou tl, q) := by
  apply CQ.x
  have hn := hF.1
  have hm1 := hX.1
  have hm2 := hX.2.1
  refine CQ.of (own := 10) (n := 2) (ini := false) (rt := (some .boolean)) (cd := cd139) (by decide +kernel) rfl (by decide +kernel) rfl (Nat.le_of_ble_eq_true rfl) ?_
  refine RQ.seg 1 (pc' := 1) (L' := [some (.ref 0), some (.int (iI b))]) (st' := [.int (iI b)]) (g1 := (HW sc ar tx oc rl ou tl, q)) rfl ?_
  refine RQ.if1 (a := b) rfl rfl rfl (by omega) (fun (h1 : b < 0) => ?_) (fun (h1 : ¬ b < 0) => ?_)
  · skip
    refine RQ.seg 1 (pc' := 20) (L' := [some (.ref 0), some (.int (iI b))]) (st' := [.int (iI 0)]) (g1 := (HW sc ar tx oc rl ou tl, q)) rfl ?_
    refine RQ.ret rfl rfl ?_
    exfalso; omega
  · skip
    refine RQ.seg 4 (pc' := 12) (L' := [some (.ref 0), some (.int (iI b))]) (st' := [.int (iI (sc 304)), .int (iI b)]) (g1 := (HW sc ar tx oc rl ou tl, q)) rfl ?_
    refine RQ.if2 (a := b) (b := (sc 304)) rfl rfl rfl rfl (by omega) (by omega) (fun (h2 : sc 304 ≤ b) => ?_) (fun (h2 : ¬ sc 304 ≤ b) => ?_)
    · skip
      refine RQ.seg 1 (pc' := 20) (L' := [some (.ref 0), some (.int (iI b))]) (st' := [.int (iI 0)]) (g1 := (HW sc ar tx oc rl ou tl, q)) rfl ?_
      refine RQ.ret rfl rfl ?_
      exfalso; omega
    · skip
      refine RQ.seg 2 (pc' := 20) (L' := [some (.ref 0), some (.int (iI b))]) (st' := [.int (iI 1)]) (g1 := (HW sc ar tx oc rl ou tl, q)) rfl ?_
      refine RQ.ret rfl rfl ?_
      exact ⟨rfl, rfl⟩
theorem x_isBrN_f {K : PK} {d : Nat} {sc : Nat → Int} {ar : Nat → Int → Int} {tx oc : Nat} {rl : Nat → Option Nat} {ou : Nat → Int64} {tl : List PO} {q : Nat × Nat} {nw nb : Int} {W B : Int → Int → Int} {b : Int} (rb : -2147483648 ≤ b ∧ b < 2147483648) (hX : FrX (sc 303) (sc 304) (ar 5) (ar 6) (ar 7) (ar 8) (ar 10) (ar 11) (ar 12) nw nb W B) (hF : FrOK nw nb W B) (hP : ¬ (0 ≤ b ∧ b < nb)) : CallR K (d + 1) 139 [.ref 0, .int (iI b)] (HW sc ar tx oc rl ou tl, q) (some (.int (iI 0))) (HW sc ar tx oc rl ou tl, q) := by
  apply CQ.x
  have hn := hF.1
  have hm1 := hX.1
  have hm2 := hX.2.1
  refine CQ.of (own := 10) (n := 2) (ini := false) (rt := (some .boolean)) (cd := cd139) (by decide +kernel) rfl (by decide +kernel) rfl (Nat.le_of_ble_eq_true rfl) ?_
  refine RQ.seg 1 (pc' := 1) (L' := [some (.ref 0), some (.int (iI b))]) (st' := [.int (iI b)]) (g1 := (HW sc ar tx oc rl ou tl, q)) rfl ?_
  refine RQ.if1 (a := b) rfl rfl rfl (by omega) (fun (h1 : b < 0) => ?_) (fun (h1 : ¬ b < 0) => ?_)
  · skip
    refine RQ.seg 1 (pc' := 20) (L' := [some (.ref 0), some (.int (iI b))]) (st' := [.int (iI 0)]) (g1 := (HW sc ar tx oc rl ou tl, q)) rfl ?_
    refine RQ.ret rfl rfl ?_
    exact ⟨rfl, rfl⟩
  · skip
    refine RQ.seg 4 (pc' := 12) (L' := [some (.ref 0), some (.int (iI b))]) (st' := [.int (iI (sc 304)), .int (iI b)]) (g1 := (HW sc ar tx oc rl ou tl, q)) rfl ?_
    refine RQ.if2 (a := b) (b := (sc 304)) rfl rfl rfl rfl (by omega) (by omega) (fun (h2 : sc 304 ≤ b) => ?_) (fun (h2 : ¬ sc 304 ≤ b) => ?_)
    · skip
      refine RQ.seg 1 (pc' := 20) (L' := [some (.ref 0), some (.int (iI b))]) (st' := [.int (iI 0)]) (g1 := (HW sc ar tx oc rl ou tl, q)) rfl ?_
      refine RQ.ret rfl rfl ?_
      exact ⟨rfl, rfl⟩
    · skip
      refine RQ.seg 2 (pc' := 20) (L' := [some (.ref 0), some (.int (iI b))]) (st' := [.int (iI 1)]) (g1 := (HW sc ar tx oc rl ou tl, q)) rfl ?_
      refine RQ.ret rfl rfl ?_
      exfalso; omega
theorem x_isWiN_t {K : PK} {d : Nat} {sc : Nat → Int} {ar : Nat → Int → Int} {tx oc : Nat} {rl : Nat → Option Nat} {ou : Nat → Int64} {tl : List PO} {q : Nat × Nat} {nw nb : Int} {W B : Int → Int → Int} {b : Int} (rb : -2147483648 ≤ b ∧ b < 2147483648) (hX : FrX (sc 303) (sc 304) (ar 5) (ar 6) (ar 7) (ar 8) (ar 10) (ar 11) (ar 12) nw nb W B) (hF : FrOK nw nb W B) (hP : 0 ≤ b ∧ b < nw) : CallR K (d + 1) 140 [.ref 0, .int (iI b)] (HW sc ar tx oc rl ou tl, q) (some (.int (iI 1))) (HW sc ar tx oc rl ou tl, q) := by
  apply CQ.x
  have hn := hF.1
  have hm1 := hX.1
  have hm2 := hX.2.1
  refine CQ.of (own := 10) (n := 2) (ini := false) (rt := (some .boolean)) (cd := cd140) (by decide +kernel) rfl (by decide +kernel) rfl (Nat.le_of_ble_eq_true rfl) ?_
  refine RQ.seg 1 (pc' := 1) (L' := [some (.ref 0), some (.int (iI b))]) (st' := [.int (iI b)]) (g1 := (HW sc ar tx oc rl ou tl, q)) rfl ?_
  refine RQ.if1 (a := b) rfl rfl rfl (by omega) (fun (h1 : b < 0) => ?_) (fun (h1 : ¬ b < 0) => ?_)
  · skip
    refine RQ.seg 1 (pc' := 20) (L' := [some (.ref 0), some (.int (iI b))]) (st' := [.int (iI 0)]) (g1 := (HW sc ar tx oc rl ou tl, q)) rfl ?_
    refine RQ.ret rfl rfl ?_
    exfalso; omega
  · skip
    refine RQ.seg 4 (pc' := 12) (L' := [some (.ref 0), some (.int (iI b))]) (st' := [.int (iI (sc 303)), .int (iI b)]) (g1 := (HW sc ar tx oc rl ou tl, q)) rfl ?_
    refine RQ.if2 (a := b) (b := (sc 303)) rfl rfl rfl rfl (by omega) (by omega) (fun (h2 : sc 303 ≤ b) => ?_) (fun (h2 : ¬ sc 303 ≤ b) => ?_)
    · skip
      refine RQ.seg 1 (pc' := 20) (L' := [some (.ref 0), some (.int (iI b))]) (st' := [.int (iI 0)]) (g1 := (HW sc ar tx oc rl ou tl, q)) rfl ?_
      refine RQ.ret rfl rfl ?_
      exfalso; omega
    · skip
      refine RQ.seg 2 (pc' := 20) (L' := [some (.ref 0), some (.int (iI b))]) (st' := [.int (iI 1)]) (g1 := (HW sc ar tx oc rl ou tl, q)) rfl ?_
      refine RQ.ret rfl rfl ?_
      exact ⟨rfl, rfl⟩
theorem x_isWiN_f {K : PK} {d : Nat} {sc : Nat → Int} {ar : Nat → Int → Int} {tx oc : Nat} {rl : Nat → Option Nat} {ou : Nat → Int64} {tl : List PO} {q : Nat × Nat} {nw nb : Int} {W B : Int → Int → Int} {b : Int} (rb : -2147483648 ≤ b ∧ b < 2147483648) (hX : FrX (sc 303) (sc 304) (ar 5) (ar 6) (ar 7) (ar 8) (ar 10) (ar 11) (ar 12) nw nb W B) (hF : FrOK nw nb W B) (hP : ¬ (0 ≤ b ∧ b < nw)) : CallR K (d + 1) 140 [.ref 0, .int (iI b)] (HW sc ar tx oc rl ou tl, q) (some (.int (iI 0))) (HW sc ar tx oc rl ou tl, q) := by
  apply CQ.x
  have hn := hF.1
  have hm1 := hX.1
  have hm2 := hX.2.1
  refine CQ.of (own := 10) (n := 2) (ini := false) (rt := (some .boolean)) (cd := cd140) (by decide +kernel) rfl (by decide +kernel) rfl (Nat.le_of_ble_eq_true rfl) ?_
  refine RQ.seg 1 (pc' := 1) (L' := [some (.ref 0), some (.int (iI b))]) (st' := [.int (iI b)]) (g1 := (HW sc ar tx oc rl ou tl, q)) rfl ?_
  refine RQ.if1 (a := b) rfl rfl rfl (by omega) (fun (h1 : b < 0) => ?_) (fun (h1 : ¬ b < 0) => ?_)
  · skip
    refine RQ.seg 1 (pc' := 20) (L' := [some (.ref 0), some (.int (iI b))]) (st' := [.int (iI 0)]) (g1 := (HW sc ar tx oc rl ou tl, q)) rfl ?_
    refine RQ.ret rfl rfl ?_
    exact ⟨rfl, rfl⟩
  · skip
    refine RQ.seg 4 (pc' := 12) (L' := [some (.ref 0), some (.int (iI b))]) (st' := [.int (iI (sc 303)), .int (iI b)]) (g1 := (HW sc ar tx oc rl ou tl, q)) rfl ?_
    refine RQ.if2 (a := b) (b := (sc 303)) rfl rfl rfl rfl (by omega) (by omega) (fun (h2 : sc 303 ≤ b) => ?_) (fun (h2 : ¬ sc 303 ≤ b) => ?_)
    · skip
      refine RQ.seg 1 (pc' := 20) (L' := [some (.ref 0), some (.int (iI b))]) (st' := [.int (iI 0)]) (g1 := (HW sc ar tx oc rl ou tl, q)) rfl ?_
      refine RQ.ret rfl rfl ?_
      exact ⟨rfl, rfl⟩
    · skip
      refine RQ.seg 2 (pc' := 20) (L' := [some (.ref 0), some (.int (iI b))]) (st' := [.int (iI 1)]) (g1 := (HW sc ar tx oc rl ou tl, q)) rfl ?_
      refine RQ.ret rfl rfl ?_
      exfalso; omega
theorem x_standsN_t {K : PK} {d : Nat} {sc : Nat → Int} {ar : Nat → Int → Int} {tx oc : Nat} {rl : Nat → Option Nat} {ou : Nat → Int64} {tl : List PO} {q : Nat × Nat} {nw nb : Int} {W B : Int → Int → Int} (hX : FrX (sc 303) (sc 304) (ar 5) (ar 6) (ar 7) (ar 8) (ar 10) (ar 11) (ar 12) nw nb W B) (hF : FrOK nw nb W B) (hP : 0 < nb) : CallR K (d + 1) 17 [.ref 3] (HW sc ar tx oc rl ou tl, q) (some (.int (iI 1))) (HW sc ar tx oc rl ou tl, q) := by
  apply CQ.x
  have hn := hF.1
  have hm1 := hX.1
  have hm2 := hX.2.1
  refine CQ.of (own := 2) (n := 1) (ini := false) (rt := (some .boolean)) (cd := cd17) (by decide +kernel) rfl (by decide +kernel) rfl (Nat.le_of_ble_eq_true rfl) ?_
  refine RQ.seg 2 (pc' := 4) (L' := [some (.ref 3)]) (st' := [.int (iI (sc 304))]) (g1 := (HW sc ar tx oc rl ou tl, q)) rfl ?_
  refine RQ.if1 (a := (sc 304)) rfl rfl rfl (by omega) (fun (h1 : sc 304 ≤ 0) => ?_) (fun (h1 : ¬ sc 304 ≤ 0) => ?_)
  · skip
    refine RQ.seg 1 (pc' := 12) (L' := [some (.ref 3)]) (st' := [.int (iI 0)]) (g1 := (HW sc ar tx oc rl ou tl, q)) rfl ?_
    refine RQ.ret rfl rfl ?_
    exfalso; omega
  · skip
    refine RQ.seg 2 (pc' := 12) (L' := [some (.ref 3)]) (st' := [.int (iI 1)]) (g1 := (HW sc ar tx oc rl ou tl, q)) rfl ?_
    refine RQ.ret rfl rfl ?_
    exact ⟨rfl, rfl⟩
theorem x_standsN_f {K : PK} {d : Nat} {sc : Nat → Int} {ar : Nat → Int → Int} {tx oc : Nat} {rl : Nat → Option Nat} {ou : Nat → Int64} {tl : List PO} {q : Nat × Nat} {nw nb : Int} {W B : Int → Int → Int} (hX : FrX (sc 303) (sc 304) (ar 5) (ar 6) (ar 7) (ar 8) (ar 10) (ar 11) (ar 12) nw nb W B) (hF : FrOK nw nb W B) (hP : ¬ (0 < nb)) : CallR K (d + 1) 17 [.ref 3] (HW sc ar tx oc rl ou tl, q) (some (.int (iI 0))) (HW sc ar tx oc rl ou tl, q) := by
  apply CQ.x
  have hn := hF.1
  have hm1 := hX.1
  have hm2 := hX.2.1
  refine CQ.of (own := 2) (n := 1) (ini := false) (rt := (some .boolean)) (cd := cd17) (by decide +kernel) rfl (by decide +kernel) rfl (Nat.le_of_ble_eq_true rfl) ?_
  refine RQ.seg 2 (pc' := 4) (L' := [some (.ref 3)]) (st' := [.int (iI (sc 304))]) (g1 := (HW sc ar tx oc rl ou tl, q)) rfl ?_
  refine RQ.if1 (a := (sc 304)) rfl rfl rfl (by omega) (fun (h1 : sc 304 ≤ 0) => ?_) (fun (h1 : ¬ sc 304 ≤ 0) => ?_)
  · skip
    refine RQ.seg 1 (pc' := 12) (L' := [some (.ref 3)]) (st' := [.int (iI 0)]) (g1 := (HW sc ar tx oc rl ou tl, q)) rfl ?_
    refine RQ.ret rfl rfl ?_
    exact ⟨rfl, rfl⟩
  · skip
    refine RQ.seg 2 (pc' := 12) (L' := [some (.ref 3)]) (st' := [.int (iI 1)]) (g1 := (HW sc ar tx oc rl ou tl, q)) rfl ?_
    refine RQ.ret rfl rfl ?_
    exfalso; omega
theorem x_rch_t {K : PK} {d : Nat} {sc : Nat → Int} {ar : Nat → Int → Int} {tx oc : Nat} {rl : Nat → Option Nat} {ou : Nat → Int64} {tl : List PO} {q : Nat × Nat} {l p w : Int} {nw nb : Int} {W B : Int → Int → Int} (hF : FrOK nw nb W B) (hX : FrX (sc 303) (sc 304) (ar 5) (ar 6) (ar 7) (ar 8) (ar 10) (ar 11) (ar 12) nw nb W B) (hl : 0 ≤ l ∧ l ≤ 30) (hp : -50 ≤ p ∧ p ≤ 50) (hw0 : 0 ≤ w ∧ w < nw) (hP : rch W l p w) : CallR K (d + 1) 22 [.ref 3, .int (iI l), .int (iI p), .int (iI w)] (HW sc ar tx oc rl ou tl, q) (some (.int (iI 1))) (HW sc ar tx oc rl ou tl, q) := by
  apply CQ.x
  have hn := hF.1
  have hm1 := hX.1
  have hm2 := hX.2.1
  have hw := hF.2.1 w hw0.1 hw0.2
  have q1 := sqb (a := p - W w 0) (n := 60) (by omega)
  have q2 := sqb (a := W w 1) (n := 60) (by omega)
  have q3 := sqb (a := l) (n := 60) (by omega)
  refine CQ.of (own := 2) (n := 6) (ini := false) (rt := (some .boolean)) (cd := cd22) (by decide +kernel) rfl (by decide +kernel) rfl (Nat.le_of_ble_eq_true rfl) ?_
  refine RQ.seg 4 (pc' := 6) (L' := [some (.ref 3), some (.int (iI l)), some (.int (iI p)), some (.int (iI w)), none, none]) (st' := [.int (iI w), .ref 4, .int (iI p)]) (g1 := (HW sc ar tx oc rl ou tl, q)) rfl ?_
  refine RQ.aald (z := w) rfl rfl rfl (by omega) (by decide) ?_
  refine RQ.seg 1 (pc' := 8) (L' := [some (.ref 3), some (.int (iI l)), some (.int (iI p)), some (.int (iI w)), none, none]) (st' := [.int (iI 0), .ref (5 + w.toNat), .int (iI p)]) (g1 := (HW sc ar tx oc rl ou tl, q)) rfl ?_
  have hf1 := hF.2.1 w (by omega) (by omega)
  refine RQ.ialdv (z := 0) (v := (W w 0)) rfl rfl (HW_r4 (by omega)) (by omega) (by decide) (frx_w (j := 0) hX (by omega) (by omega) (by omega) (by omega) hF.1.2.1) ?_
  refine RQ.seg 5 (pc' := 17) (L' := [some (.ref 3), some (.int (iI l)), some (.int (iI p)), some (.int (iI w)), some (.int ((iI p) - (iI (W w 0)))), none]) (st' := [.int (iI w), .ref 4]) (g1 := (HW sc ar tx oc rl ou tl, q)) rfl ?_
  refine RQ.aald (z := w) rfl rfl rfl (by omega) (by decide) ?_
  refine RQ.seg 1 (pc' := 19) (L' := [some (.ref 3), some (.int (iI l)), some (.int (iI p)), some (.int (iI w)), some (.int ((iI p) - (iI (W w 0)))), none]) (st' := [.int (iI 1), .ref (5 + w.toNat)]) (g1 := (HW sc ar tx oc rl ou tl, q)) rfl ?_
  refine RQ.ialdv (z := 1) (v := (W w 1)) rfl rfl (HW_r4 (by omega)) (by omega) (by decide) (frx_w (j := 1) hX (by omega) (by omega) (by omega) (by omega) hF.1.2.1) ?_
  refine RQ.seg 11 (pc' := 36) (L' := [some (.ref 3), some (.int (iI l)), some (.int (iI p)), some (.int (iI w)), some (.int ((iI p) - (iI (W w 0)))), some (.int (iI (W w 1)))]) (st' := [.int ((iI l) * (iI l)), .int ((((iI p) - (iI (W w 0))) * ((iI p) - (iI (W w 0)))) + ((iI (W w 1)) * (iI (W w 1))))]) (g1 := (HW sc ar tx oc rl ou tl, q)) rfl ?_
  refine RQ.if2 (a := ((p - (W w 0)) * (p - (W w 0)) + ((W w 1) * (W w 1)))) (b := (l * l)) rfl rfl (by simp only [iI_add, iI_sub, iI_mul, iI_neg]) (by simp only [iI_add, iI_sub, iI_mul, iI_neg]) (by omega) (by omega) (fun (h1 : l * l < (p - (W w 0)) * (p - (W w 0)) + ((W w 1) * (W w 1))) => ?_) (fun (h1 : ¬ l * l < (p - (W w 0)) * (p - (W w 0)) + ((W w 1) * (W w 1))) => ?_)
  · skip
    refine RQ.seg 1 (pc' := 44) (L' := [some (.ref 3), some (.int (iI l)), some (.int (iI p)), some (.int (iI w)), some (.int ((iI p) - (iI (W w 0)))), some (.int (iI (W w 1)))]) (st' := [.int (iI 0)]) (g1 := (HW sc ar tx oc rl ou tl, q)) rfl ?_
    refine RQ.to (L' := [some (.ref 3), some (.int (iI l)), some (.int (iI p)), some (.int (iI w)), some (.int (iI (p - (W w 0)))), some (.int (iI (W w 1)))]) (st' := [.int (iI 0)]) (by simp only [iI_add, iI_sub, iI_mul, iI_neg]) rfl ?_
    refine RQ.ret rfl rfl ?_
    exfalso; omega
  · skip
    refine RQ.seg 2 (pc' := 44) (L' := [some (.ref 3), some (.int (iI l)), some (.int (iI p)), some (.int (iI w)), some (.int ((iI p) - (iI (W w 0)))), some (.int (iI (W w 1)))]) (st' := [.int (iI 1)]) (g1 := (HW sc ar tx oc rl ou tl, q)) rfl ?_
    refine RQ.to (L' := [some (.ref 3), some (.int (iI l)), some (.int (iI p)), some (.int (iI w)), some (.int (iI (p - (W w 0)))), some (.int (iI (W w 1)))]) (st' := [.int (iI 1)]) (by simp only [iI_add, iI_sub, iI_mul, iI_neg]) rfl ?_
    refine RQ.ret rfl rfl ?_
    exact ⟨rfl, rfl⟩
theorem x_rch_f {K : PK} {d : Nat} {sc : Nat → Int} {ar : Nat → Int → Int} {tx oc : Nat} {rl : Nat → Option Nat} {ou : Nat → Int64} {tl : List PO} {q : Nat × Nat} {l p w : Int} {nw nb : Int} {W B : Int → Int → Int} (hF : FrOK nw nb W B) (hX : FrX (sc 303) (sc 304) (ar 5) (ar 6) (ar 7) (ar 8) (ar 10) (ar 11) (ar 12) nw nb W B) (hl : 0 ≤ l ∧ l ≤ 30) (hp : -50 ≤ p ∧ p ≤ 50) (hw0 : 0 ≤ w ∧ w < nw) (hP : ¬ (rch W l p w)) : CallR K (d + 1) 22 [.ref 3, .int (iI l), .int (iI p), .int (iI w)] (HW sc ar tx oc rl ou tl, q) (some (.int (iI 0))) (HW sc ar tx oc rl ou tl, q) := by
  apply CQ.x
  have hn := hF.1
  have hm1 := hX.1
  have hm2 := hX.2.1
  have hw := hF.2.1 w hw0.1 hw0.2
  have q1 := sqb (a := p - W w 0) (n := 60) (by omega)
  have q2 := sqb (a := W w 1) (n := 60) (by omega)
  have q3 := sqb (a := l) (n := 60) (by omega)
  refine CQ.of (own := 2) (n := 6) (ini := false) (rt := (some .boolean)) (cd := cd22) (by decide +kernel) rfl (by decide +kernel) rfl (Nat.le_of_ble_eq_true rfl) ?_
  refine RQ.seg 4 (pc' := 6) (L' := [some (.ref 3), some (.int (iI l)), some (.int (iI p)), some (.int (iI w)), none, none]) (st' := [.int (iI w), .ref 4, .int (iI p)]) (g1 := (HW sc ar tx oc rl ou tl, q)) rfl ?_
  refine RQ.aald (z := w) rfl rfl rfl (by omega) (by decide) ?_
  refine RQ.seg 1 (pc' := 8) (L' := [some (.ref 3), some (.int (iI l)), some (.int (iI p)), some (.int (iI w)), none, none]) (st' := [.int (iI 0), .ref (5 + w.toNat), .int (iI p)]) (g1 := (HW sc ar tx oc rl ou tl, q)) rfl ?_
  have hf1 := hF.2.1 w (by omega) (by omega)
  refine RQ.ialdv (z := 0) (v := (W w 0)) rfl rfl (HW_r4 (by omega)) (by omega) (by decide) (frx_w (j := 0) hX (by omega) (by omega) (by omega) (by omega) hF.1.2.1) ?_
  refine RQ.seg 5 (pc' := 17) (L' := [some (.ref 3), some (.int (iI l)), some (.int (iI p)), some (.int (iI w)), some (.int ((iI p) - (iI (W w 0)))), none]) (st' := [.int (iI w), .ref 4]) (g1 := (HW sc ar tx oc rl ou tl, q)) rfl ?_
  refine RQ.aald (z := w) rfl rfl rfl (by omega) (by decide) ?_
  refine RQ.seg 1 (pc' := 19) (L' := [some (.ref 3), some (.int (iI l)), some (.int (iI p)), some (.int (iI w)), some (.int ((iI p) - (iI (W w 0)))), none]) (st' := [.int (iI 1), .ref (5 + w.toNat)]) (g1 := (HW sc ar tx oc rl ou tl, q)) rfl ?_
  refine RQ.ialdv (z := 1) (v := (W w 1)) rfl rfl (HW_r4 (by omega)) (by omega) (by decide) (frx_w (j := 1) hX (by omega) (by omega) (by omega) (by omega) hF.1.2.1) ?_
  refine RQ.seg 11 (pc' := 36) (L' := [some (.ref 3), some (.int (iI l)), some (.int (iI p)), some (.int (iI w)), some (.int ((iI p) - (iI (W w 0)))), some (.int (iI (W w 1)))]) (st' := [.int ((iI l) * (iI l)), .int ((((iI p) - (iI (W w 0))) * ((iI p) - (iI (W w 0)))) + ((iI (W w 1)) * (iI (W w 1))))]) (g1 := (HW sc ar tx oc rl ou tl, q)) rfl ?_
  refine RQ.if2 (a := ((p - (W w 0)) * (p - (W w 0)) + ((W w 1) * (W w 1)))) (b := (l * l)) rfl rfl (by simp only [iI_add, iI_sub, iI_mul, iI_neg]) (by simp only [iI_add, iI_sub, iI_mul, iI_neg]) (by omega) (by omega) (fun (h1 : l * l < (p - (W w 0)) * (p - (W w 0)) + ((W w 1) * (W w 1))) => ?_) (fun (h1 : ¬ l * l < (p - (W w 0)) * (p - (W w 0)) + ((W w 1) * (W w 1))) => ?_)
  · skip
    refine RQ.seg 1 (pc' := 44) (L' := [some (.ref 3), some (.int (iI l)), some (.int (iI p)), some (.int (iI w)), some (.int ((iI p) - (iI (W w 0)))), some (.int (iI (W w 1)))]) (st' := [.int (iI 0)]) (g1 := (HW sc ar tx oc rl ou tl, q)) rfl ?_
    refine RQ.to (L' := [some (.ref 3), some (.int (iI l)), some (.int (iI p)), some (.int (iI w)), some (.int (iI (p - (W w 0)))), some (.int (iI (W w 1)))]) (st' := [.int (iI 0)]) (by simp only [iI_add, iI_sub, iI_mul, iI_neg]) rfl ?_
    refine RQ.ret rfl rfl ?_
    exact ⟨rfl, rfl⟩
  · skip
    refine RQ.seg 2 (pc' := 44) (L' := [some (.ref 3), some (.int (iI l)), some (.int (iI p)), some (.int (iI w)), some (.int ((iI p) - (iI (W w 0)))), some (.int (iI (W w 1)))]) (st' := [.int (iI 1)]) (g1 := (HW sc ar tx oc rl ou tl, q)) rfl ?_
    refine RQ.to (L' := [some (.ref 3), some (.int (iI l)), some (.int (iI p)), some (.int (iI w)), some (.int (iI (p - (W w 0)))), some (.int (iI (W w 1)))]) (st' := [.int (iI 1)]) (by simp only [iI_add, iI_sub, iI_mul, iI_neg]) rfl ?_
    refine RQ.ret rfl rfl ?_
    exfalso; omega
theorem x_isLP_t {K : PK} {d : Nat} {sc : Nat → Int} {ar : Nat → Int → Int} {tx oc : Nat} {rl : Nat → Option Nat} {ou : Nat → Int64} {tl : List PO} {q : Nat × Nat} {p : Int} {nw nb : Int} {W B : Int → Int → Int} (hF : FrOK nw nb W B) (hX : FrX (sc 303) (sc 304) (ar 5) (ar 6) (ar 7) (ar 8) (ar 10) (ar 11) (ar 12) nw nb W B) (rp : -2147483648 ≤ p ∧ p < 2147483648) (hP : 0 ≤ p ∧ p / 10 < 6 ∧ p % 10 < nw) : CallR K (d + 1) 20 [.ref 3, .int (iI p)] (HW sc ar tx oc rl ou tl, q) (some (.int (iI 1))) (HW sc ar tx oc rl ou tl, q) := by
  apply CQ.x
  have hn := hF.1
  have hm1 := hX.1
  have hm2 := hX.2.1
  refine CQ.of (own := 2) (n := 2) (ini := false) (rt := (some .boolean)) (cd := cd20) (by decide +kernel) rfl (by decide +kernel) rfl (Nat.le_of_ble_eq_true rfl) ?_
  refine RQ.seg 1 (pc' := 1) (L' := [some (.ref 3), some (.int (iI p))]) (st' := [.int (iI p)]) (g1 := (HW sc ar tx oc rl ou tl, q)) rfl ?_
  refine RQ.if1 (a := p) rfl rfl rfl (by omega) (fun (h1 : p < 0) => ?_) (fun (h1 : ¬ p < 0) => ?_)
  · skip
    refine RQ.seg 1 (pc' := 29) (L' := [some (.ref 3), some (.int (iI p))]) (st' := [.int (iI 0)]) (g1 := (HW sc ar tx oc rl ou tl, q)) rfl ?_
    refine RQ.ret rfl rfl ?_
    exfalso; omega
  · skip
    refine RQ.seg 2 (pc' := 7) (L' := [some (.ref 3), some (.int (iI p))]) (st' := [.int (iI 10), .int (iI p)]) (g1 := (HW sc ar tx oc rl ou tl, q)) rfl ?_
    refine RQ.idiv (a := p) (b := 10) rfl rfl rfl (by omega) (by omega) ?_
    refine RQ.seg 1 (pc' := 10) (L' := [some (.ref 3), some (.int (iI p))]) (st' := [.int (iI 6), .int (iI (p / 10))]) (g1 := (HW sc ar tx oc rl ou tl, q)) rfl ?_
    refine RQ.if2 (a := (p / 10)) (b := 6) rfl rfl rfl rfl (by omega) (by omega) (fun (h2 : 6 ≤ p / 10) => ?_) (fun (h2 : ¬ 6 ≤ p / 10) => ?_)
    · skip
      refine RQ.seg 1 (pc' := 29) (L' := [some (.ref 3), some (.int (iI p))]) (st' := [.int (iI 0)]) (g1 := (HW sc ar tx oc rl ou tl, q)) rfl ?_
      refine RQ.ret rfl rfl ?_
      exfalso; omega
    · skip
      refine RQ.seg 2 (pc' := 16) (L' := [some (.ref 3), some (.int (iI p))]) (st' := [.int (iI 10), .int (iI p)]) (g1 := (HW sc ar tx oc rl ou tl, q)) rfl ?_
      refine RQ.irem (a := p) (b := 10) rfl rfl rfl (by omega) (by omega) ?_
      refine RQ.seg 2 (pc' := 21) (L' := [some (.ref 3), some (.int (iI p))]) (st' := [.int (iI (sc 303)), .int (iI (p % 10))]) (g1 := (HW sc ar tx oc rl ou tl, q)) rfl ?_
      refine RQ.if2 (a := (p % 10)) (b := (sc 303)) rfl rfl rfl rfl (by omega) (by omega) (fun (h3 : sc 303 ≤ p % 10) => ?_) (fun (h3 : ¬ sc 303 ≤ p % 10) => ?_)
      · skip
        refine RQ.seg 1 (pc' := 29) (L' := [some (.ref 3), some (.int (iI p))]) (st' := [.int (iI 0)]) (g1 := (HW sc ar tx oc rl ou tl, q)) rfl ?_
        refine RQ.ret rfl rfl ?_
        exfalso; omega
      · skip
        refine RQ.seg 2 (pc' := 29) (L' := [some (.ref 3), some (.int (iI p))]) (st' := [.int (iI 1)]) (g1 := (HW sc ar tx oc rl ou tl, q)) rfl ?_
        refine RQ.ret rfl rfl ?_
        exact ⟨rfl, rfl⟩
theorem x_isLP_f {K : PK} {d : Nat} {sc : Nat → Int} {ar : Nat → Int → Int} {tx oc : Nat} {rl : Nat → Option Nat} {ou : Nat → Int64} {tl : List PO} {q : Nat × Nat} {p : Int} {nw nb : Int} {W B : Int → Int → Int} (hF : FrOK nw nb W B) (hX : FrX (sc 303) (sc 304) (ar 5) (ar 6) (ar 7) (ar 8) (ar 10) (ar 11) (ar 12) nw nb W B) (rp : -2147483648 ≤ p ∧ p < 2147483648) (hP : ¬ (0 ≤ p ∧ p / 10 < 6 ∧ p % 10 < nw)) : CallR K (d + 1) 20 [.ref 3, .int (iI p)] (HW sc ar tx oc rl ou tl, q) (some (.int (iI 0))) (HW sc ar tx oc rl ou tl, q) := by
  apply CQ.x
  have hn := hF.1
  have hm1 := hX.1
  have hm2 := hX.2.1
  refine CQ.of (own := 2) (n := 2) (ini := false) (rt := (some .boolean)) (cd := cd20) (by decide +kernel) rfl (by decide +kernel) rfl (Nat.le_of_ble_eq_true rfl) ?_
  refine RQ.seg 1 (pc' := 1) (L' := [some (.ref 3), some (.int (iI p))]) (st' := [.int (iI p)]) (g1 := (HW sc ar tx oc rl ou tl, q)) rfl ?_
  refine RQ.if1 (a := p) rfl rfl rfl (by omega) (fun (h1 : p < 0) => ?_) (fun (h1 : ¬ p < 0) => ?_)
  · skip
    refine RQ.seg 1 (pc' := 29) (L' := [some (.ref 3), some (.int (iI p))]) (st' := [.int (iI 0)]) (g1 := (HW sc ar tx oc rl ou tl, q)) rfl ?_
    refine RQ.ret rfl rfl ?_
    exact ⟨rfl, rfl⟩
  · skip
    refine RQ.seg 2 (pc' := 7) (L' := [some (.ref 3), some (.int (iI p))]) (st' := [.int (iI 10), .int (iI p)]) (g1 := (HW sc ar tx oc rl ou tl, q)) rfl ?_
    refine RQ.idiv (a := p) (b := 10) rfl rfl rfl (by omega) (by omega) ?_
    refine RQ.seg 1 (pc' := 10) (L' := [some (.ref 3), some (.int (iI p))]) (st' := [.int (iI 6), .int (iI (p / 10))]) (g1 := (HW sc ar tx oc rl ou tl, q)) rfl ?_
    refine RQ.if2 (a := (p / 10)) (b := 6) rfl rfl rfl rfl (by omega) (by omega) (fun (h2 : 6 ≤ p / 10) => ?_) (fun (h2 : ¬ 6 ≤ p / 10) => ?_)
    · skip
      refine RQ.seg 1 (pc' := 29) (L' := [some (.ref 3), some (.int (iI p))]) (st' := [.int (iI 0)]) (g1 := (HW sc ar tx oc rl ou tl, q)) rfl ?_
      refine RQ.ret rfl rfl ?_
      exact ⟨rfl, rfl⟩
    · skip
      refine RQ.seg 2 (pc' := 16) (L' := [some (.ref 3), some (.int (iI p))]) (st' := [.int (iI 10), .int (iI p)]) (g1 := (HW sc ar tx oc rl ou tl, q)) rfl ?_
      refine RQ.irem (a := p) (b := 10) rfl rfl rfl (by omega) (by omega) ?_
      refine RQ.seg 2 (pc' := 21) (L' := [some (.ref 3), some (.int (iI p))]) (st' := [.int (iI (sc 303)), .int (iI (p % 10))]) (g1 := (HW sc ar tx oc rl ou tl, q)) rfl ?_
      refine RQ.if2 (a := (p % 10)) (b := (sc 303)) rfl rfl rfl rfl (by omega) (by omega) (fun (h3 : sc 303 ≤ p % 10) => ?_) (fun (h3 : ¬ sc 303 ≤ p % 10) => ?_)
      · skip
        refine RQ.seg 1 (pc' := 29) (L' := [some (.ref 3), some (.int (iI p))]) (st' := [.int (iI 0)]) (g1 := (HW sc ar tx oc rl ou tl, q)) rfl ?_
        refine RQ.ret rfl rfl ?_
        exact ⟨rfl, rfl⟩
      · skip
        refine RQ.seg 2 (pc' := 29) (L' := [some (.ref 3), some (.int (iI p))]) (st' := [.int (iI 1)]) (g1 := (HW sc ar tx oc rl ou tl, q)) rfl ?_
        refine RQ.ret rfl rfl ?_
        exfalso; omega
theorem x_may_t {K : PK} {d : Nat} {sc : Nat → Int} {ar : Nat → Int → Int} {tx oc : Nat} {rl : Nat → Option Nat} {ou : Nat → Int64} {tl : List PO} {q : Nat × Nat} {b p : Int} {nw nb : Int} {W B : Int → Int → Int} (hF : FrOK nw nb W B) (hX : FrX (sc 303) (sc 304) (ar 5) (ar 6) (ar 7) (ar 8) (ar 10) (ar 11) (ar 12) nw nb W B) (rp : -2147483648 ≤ p ∧ p < 2147483648) (hb0 : 0 ≤ b ∧ b < nb) (hP : may nw W B b p) : CallR K (d + 2) 21 [.ref 3, .int (iI b), .int (iI p)] (HW sc ar tx oc rl ou tl, q) (some (.int (iI 1))) (HW sc ar tx oc rl ou tl, q) := by
  apply CQ.x
  have hn := hF.1
  have hm1 := hX.1
  have hm2 := hX.2.1
  refine CQ.of (own := 2) (n := 3) (ini := false) (rt := (some .boolean)) (cd := cd21) (by decide +kernel) rfl (by decide +kernel) rfl (Nat.le_of_ble_eq_true rfl) ?_
  refine RQ.seg 2 (pc' := 3) (L' := [some (.ref 3), some (.int (iI b)), some (.int (iI p))]) (st' := [.int (iI 99), .int (iI p)]) (g1 := (HW sc ar tx oc rl ou tl, q)) rfl ?_
  refine RQ.if2 (a := p) (b := 99) rfl rfl rfl rfl (by omega) (by omega) (fun (h1 : p ≠ 99) => ?_) (fun (h1 : ¬ p ≠ 99) => ?_)
  · skip
    refine RQ.seg 2 (pc' := 10) (L' := [some (.ref 3), some (.int (iI b)), some (.int (iI p))]) (st' := [.int (iI p), .ref 3]) (g1 := (HW sc ar tx oc rl ou tl, q)) rfl ?_
    rcases Decidable.em (0 ≤ p ∧ p / 10 < 6 ∧ p % 10 < nw) with h2 | h2
    · skip
      refine RQ.call rfl rfl (x_isLP_t hF hX (by omega) h2) ?_
      refine RQ.seg 5 (pc' := 22) (L' := [some (.ref 3), some (.int (iI b)), some (.int (iI p))]) (st' := [.int (iI b), .ref 9, .ref 3]) (g1 := (HW sc ar tx oc rl ou tl, q)) rfl ?_
      refine RQ.aald (z := b) rfl rfl rfl (by omega) (by decide) ?_
      refine RQ.seg 1 (pc' := 24) (L' := [some (.ref 3), some (.int (iI b)), some (.int (iI p))]) (st' := [.int (iI 1), .ref (10 + b.toNat), .ref 3]) (g1 := (HW sc ar tx oc rl ou tl, q)) rfl ?_
      have hf1 := hF.2.2 b (by omega) (by omega)
      refine RQ.ialdv (z := 1) (v := (B b 1)) rfl rfl (HW_r9 (by omega)) (by omega) (by decide) (frx_b (j := 1) hX (by omega) (by omega) (by omega) (by omega) hF.1.2.2.2) ?_
      refine RQ.seg 2 (pc' := 28) (L' := [some (.ref 3), some (.int (iI b)), some (.int (iI p))]) (st' := [.int (iI 10), .int (iI p), .int (iI (B b 1)), .ref 3]) (g1 := (HW sc ar tx oc rl ou tl, q)) rfl ?_
      refine RQ.idiv (a := p) (b := 10) rfl rfl rfl (by omega) (by omega) ?_
      refine RQ.seg 2 (pc' := 32) (L' := [some (.ref 3), some (.int (iI b)), some (.int (iI p))]) (st' := [.int (iI 10), .int (iI p), .int (iI (p / 10)), .int (iI (B b 1)), .ref 3]) (g1 := (HW sc ar tx oc rl ou tl, q)) rfl ?_
      refine RQ.irem (a := p) (b := 10) rfl rfl rfl (by omega) (by omega) ?_
      rcases Decidable.em (rch W (B b 1) (p / 10) (p % 10)) with h3 | h3
      · skip
        refine RQ.call rfl rfl (x_rch_t hF hX (by omega) (by omega) (by omega) h3) ?_
        refine RQ.seg 3 (pc' := 44) (L' := [some (.ref 3), some (.int (iI b)), some (.int (iI p))]) (st' := [.int (iI 1)]) (g1 := (HW sc ar tx oc rl ou tl, q)) rfl ?_
        refine RQ.ret rfl rfl ?_
        exact ⟨rfl, rfl⟩
      · skip
        refine RQ.call rfl rfl (x_rch_f hF hX (by omega) (by omega) (by omega) h3) ?_
        refine RQ.seg 2 (pc' := 44) (L' := [some (.ref 3), some (.int (iI b)), some (.int (iI p))]) (st' := [.int (iI 0)]) (g1 := (HW sc ar tx oc rl ou tl, q)) rfl ?_
        refine RQ.ret rfl rfl ?_
        exfalso; omega
    · skip
      refine RQ.call rfl rfl (x_isLP_f hF hX (by omega) h2) ?_
      refine RQ.seg 2 (pc' := 44) (L' := [some (.ref 3), some (.int (iI b)), some (.int (iI p))]) (st' := [.int (iI 0)]) (g1 := (HW sc ar tx oc rl ou tl, q)) rfl ?_
      refine RQ.ret rfl rfl ?_
      exfalso; omega
  · skip
    refine RQ.seg 1 (pc' := 7) (L' := [some (.ref 3), some (.int (iI b)), some (.int (iI p))]) (st' := [.int (iI 1)]) (g1 := (HW sc ar tx oc rl ou tl, q)) rfl ?_
    refine RQ.ret rfl rfl ?_
    exact ⟨rfl, rfl⟩
theorem x_may_f {K : PK} {d : Nat} {sc : Nat → Int} {ar : Nat → Int → Int} {tx oc : Nat} {rl : Nat → Option Nat} {ou : Nat → Int64} {tl : List PO} {q : Nat × Nat} {b p : Int} {nw nb : Int} {W B : Int → Int → Int} (hF : FrOK nw nb W B) (hX : FrX (sc 303) (sc 304) (ar 5) (ar 6) (ar 7) (ar 8) (ar 10) (ar 11) (ar 12) nw nb W B) (rp : -2147483648 ≤ p ∧ p < 2147483648) (hb0 : 0 ≤ b ∧ b < nb) (hP : ¬ (may nw W B b p)) : CallR K (d + 2) 21 [.ref 3, .int (iI b), .int (iI p)] (HW sc ar tx oc rl ou tl, q) (some (.int (iI 0))) (HW sc ar tx oc rl ou tl, q) := by
  apply CQ.x
  have hn := hF.1
  have hm1 := hX.1
  have hm2 := hX.2.1
  refine CQ.of (own := 2) (n := 3) (ini := false) (rt := (some .boolean)) (cd := cd21) (by decide +kernel) rfl (by decide +kernel) rfl (Nat.le_of_ble_eq_true rfl) ?_
  refine RQ.seg 2 (pc' := 3) (L' := [some (.ref 3), some (.int (iI b)), some (.int (iI p))]) (st' := [.int (iI 99), .int (iI p)]) (g1 := (HW sc ar tx oc rl ou tl, q)) rfl ?_
  refine RQ.if2 (a := p) (b := 99) rfl rfl rfl rfl (by omega) (by omega) (fun (h1 : p ≠ 99) => ?_) (fun (h1 : ¬ p ≠ 99) => ?_)
  · skip
    refine RQ.seg 2 (pc' := 10) (L' := [some (.ref 3), some (.int (iI b)), some (.int (iI p))]) (st' := [.int (iI p), .ref 3]) (g1 := (HW sc ar tx oc rl ou tl, q)) rfl ?_
    rcases Decidable.em (0 ≤ p ∧ p / 10 < 6 ∧ p % 10 < nw) with h2 | h2
    · skip
      refine RQ.call rfl rfl (x_isLP_t hF hX (by omega) h2) ?_
      refine RQ.seg 5 (pc' := 22) (L' := [some (.ref 3), some (.int (iI b)), some (.int (iI p))]) (st' := [.int (iI b), .ref 9, .ref 3]) (g1 := (HW sc ar tx oc rl ou tl, q)) rfl ?_
      refine RQ.aald (z := b) rfl rfl rfl (by omega) (by decide) ?_
      refine RQ.seg 1 (pc' := 24) (L' := [some (.ref 3), some (.int (iI b)), some (.int (iI p))]) (st' := [.int (iI 1), .ref (10 + b.toNat), .ref 3]) (g1 := (HW sc ar tx oc rl ou tl, q)) rfl ?_
      have hf1 := hF.2.2 b (by omega) (by omega)
      refine RQ.ialdv (z := 1) (v := (B b 1)) rfl rfl (HW_r9 (by omega)) (by omega) (by decide) (frx_b (j := 1) hX (by omega) (by omega) (by omega) (by omega) hF.1.2.2.2) ?_
      refine RQ.seg 2 (pc' := 28) (L' := [some (.ref 3), some (.int (iI b)), some (.int (iI p))]) (st' := [.int (iI 10), .int (iI p), .int (iI (B b 1)), .ref 3]) (g1 := (HW sc ar tx oc rl ou tl, q)) rfl ?_
      refine RQ.idiv (a := p) (b := 10) rfl rfl rfl (by omega) (by omega) ?_
      refine RQ.seg 2 (pc' := 32) (L' := [some (.ref 3), some (.int (iI b)), some (.int (iI p))]) (st' := [.int (iI 10), .int (iI p), .int (iI (p / 10)), .int (iI (B b 1)), .ref 3]) (g1 := (HW sc ar tx oc rl ou tl, q)) rfl ?_
      refine RQ.irem (a := p) (b := 10) rfl rfl rfl (by omega) (by omega) ?_
      rcases Decidable.em (rch W (B b 1) (p / 10) (p % 10)) with h3 | h3
      · skip
        refine RQ.call rfl rfl (x_rch_t hF hX (by omega) (by omega) (by omega) h3) ?_
        refine RQ.seg 3 (pc' := 44) (L' := [some (.ref 3), some (.int (iI b)), some (.int (iI p))]) (st' := [.int (iI 1)]) (g1 := (HW sc ar tx oc rl ou tl, q)) rfl ?_
        refine RQ.ret rfl rfl ?_
        exfalso; omega
      · skip
        refine RQ.call rfl rfl (x_rch_f hF hX (by omega) (by omega) (by omega) h3) ?_
        refine RQ.seg 2 (pc' := 44) (L' := [some (.ref 3), some (.int (iI b)), some (.int (iI p))]) (st' := [.int (iI 0)]) (g1 := (HW sc ar tx oc rl ou tl, q)) rfl ?_
        refine RQ.ret rfl rfl ?_
        exact ⟨rfl, rfl⟩
    · skip
      refine RQ.call rfl rfl (x_isLP_f hF hX (by omega) h2) ?_
      refine RQ.seg 2 (pc' := 44) (L' := [some (.ref 3), some (.int (iI b)), some (.int (iI p))]) (st' := [.int (iI 0)]) (g1 := (HW sc ar tx oc rl ou tl, q)) rfl ?_
      refine RQ.ret rfl rfl ?_
      exact ⟨rfl, rfl⟩
  · skip
    refine RQ.seg 1 (pc' := 7) (L' := [some (.ref 3), some (.int (iI b)), some (.int (iI p))]) (st' := [.int (iI 1)]) (g1 := (HW sc ar tx oc rl ou tl, q)) rfl ?_
    refine RQ.ret rfl rfl ?_
    exfalso; omega
theorem m_isPut_t {K : PK} {d : Nat} {sc : Nat → Int} {ar : Nat → Int → Int} {tx oc : Nat} {rl : Nat → Option Nat} {ou : Nat → Int64} {tl : List PO} {q : Nat × Nat} {p n : Int} (rp : -2147483648 ≤ p ∧ p < 2147483648) (hn : 0 ≤ n ∧ n ≤ 4) (hP : p = 99 ∨ 0 ≤ p ∧ p / 10 < 6 ∧ p % 10 < n) : CallR K (d + 1) 192 [.int (iI p), .int (iI n)] (HW sc ar tx oc rl ou tl, q) (some (.int (iI 1))) (HW sc ar tx oc rl ou tl, q) := by
  apply CQ.x
  refine CQ.of (own := 11) (n := 2) (ini := false) (rt := (some .boolean)) (cd := cd192) (by decide +kernel) rfl (by decide +kernel) rfl (Nat.le_of_ble_eq_true rfl) ?_
  refine RQ.seg 2 (pc' := 3) (L' := [some (.int (iI p)), some (.int (iI n))]) (st' := [.int (iI 99), .int (iI p)]) (g1 := (HW sc ar tx oc rl ou tl, q)) rfl ?_
  refine RQ.if2 (a := p) (b := 99) rfl rfl rfl rfl (by omega) (by omega) (fun (h1 : p = 99) => ?_) (fun (h1 : ¬ p = 99) => ?_)
  · skip
    refine RQ.seg 2 (pc' := 32) (L' := [some (.int (iI p)), some (.int (iI n))]) (st' := [.int (iI 1)]) (g1 := (HW sc ar tx oc rl ou tl, q)) rfl ?_
    refine RQ.ret rfl rfl ?_
    exact ⟨rfl, rfl⟩
  · skip
    refine RQ.seg 1 (pc' := 7) (L' := [some (.int (iI p)), some (.int (iI n))]) (st' := [.int (iI p)]) (g1 := (HW sc ar tx oc rl ou tl, q)) rfl ?_
    refine RQ.if1 (a := p) rfl rfl rfl (by omega) (fun (h2 : p < 0) => ?_) (fun (h2 : ¬ p < 0) => ?_)
    · skip
      refine RQ.seg 1 (pc' := 32) (L' := [some (.int (iI p)), some (.int (iI n))]) (st' := [.int (iI 0)]) (g1 := (HW sc ar tx oc rl ou tl, q)) rfl ?_
      refine RQ.ret rfl rfl ?_
      exfalso; omega
    · skip
      refine RQ.seg 2 (pc' := 13) (L' := [some (.int (iI p)), some (.int (iI n))]) (st' := [.int (iI 10), .int (iI p)]) (g1 := (HW sc ar tx oc rl ou tl, q)) rfl ?_
      refine RQ.idiv (a := p) (b := 10) rfl rfl rfl (by omega) (by omega) ?_
      refine RQ.seg 1 (pc' := 16) (L' := [some (.int (iI p)), some (.int (iI n))]) (st' := [.int (iI 6), .int (iI (p / 10))]) (g1 := (HW sc ar tx oc rl ou tl, q)) rfl ?_
      refine RQ.if2 (a := (p / 10)) (b := 6) rfl rfl rfl rfl (by omega) (by omega) (fun (h3 : 6 ≤ p / 10) => ?_) (fun (h3 : ¬ 6 ≤ p / 10) => ?_)
      · skip
        refine RQ.seg 1 (pc' := 32) (L' := [some (.int (iI p)), some (.int (iI n))]) (st' := [.int (iI 0)]) (g1 := (HW sc ar tx oc rl ou tl, q)) rfl ?_
        refine RQ.ret rfl rfl ?_
        exfalso; omega
      · skip
        refine RQ.seg 2 (pc' := 22) (L' := [some (.int (iI p)), some (.int (iI n))]) (st' := [.int (iI 10), .int (iI p)]) (g1 := (HW sc ar tx oc rl ou tl, q)) rfl ?_
        refine RQ.irem (a := p) (b := 10) rfl rfl rfl (by omega) (by omega) ?_
        refine RQ.seg 1 (pc' := 24) (L' := [some (.int (iI p)), some (.int (iI n))]) (st' := [.int (iI n), .int (iI (p % 10))]) (g1 := (HW sc ar tx oc rl ou tl, q)) rfl ?_
        refine RQ.if2 (a := (p % 10)) (b := n) rfl rfl rfl rfl (by omega) (by omega) (fun (h4 : n ≤ p % 10) => ?_) (fun (h4 : ¬ n ≤ p % 10) => ?_)
        · skip
          refine RQ.seg 1 (pc' := 32) (L' := [some (.int (iI p)), some (.int (iI n))]) (st' := [.int (iI 0)]) (g1 := (HW sc ar tx oc rl ou tl, q)) rfl ?_
          refine RQ.ret rfl rfl ?_
          exfalso; omega
        · skip
          refine RQ.seg 2 (pc' := 32) (L' := [some (.int (iI p)), some (.int (iI n))]) (st' := [.int (iI 1)]) (g1 := (HW sc ar tx oc rl ou tl, q)) rfl ?_
          refine RQ.ret rfl rfl ?_
          exact ⟨rfl, rfl⟩
theorem m_isPut_f {K : PK} {d : Nat} {sc : Nat → Int} {ar : Nat → Int → Int} {tx oc : Nat} {rl : Nat → Option Nat} {ou : Nat → Int64} {tl : List PO} {q : Nat × Nat} {p n : Int} (rp : -2147483648 ≤ p ∧ p < 2147483648) (hn : 0 ≤ n ∧ n ≤ 4) (hP : ¬ (p = 99 ∨ 0 ≤ p ∧ p / 10 < 6 ∧ p % 10 < n)) : CallR K (d + 1) 192 [.int (iI p), .int (iI n)] (HW sc ar tx oc rl ou tl, q) (some (.int (iI 0))) (HW sc ar tx oc rl ou tl, q) := by
  apply CQ.x
  refine CQ.of (own := 11) (n := 2) (ini := false) (rt := (some .boolean)) (cd := cd192) (by decide +kernel) rfl (by decide +kernel) rfl (Nat.le_of_ble_eq_true rfl) ?_
  refine RQ.seg 2 (pc' := 3) (L' := [some (.int (iI p)), some (.int (iI n))]) (st' := [.int (iI 99), .int (iI p)]) (g1 := (HW sc ar tx oc rl ou tl, q)) rfl ?_
  refine RQ.if2 (a := p) (b := 99) rfl rfl rfl rfl (by omega) (by omega) (fun (h1 : p = 99) => ?_) (fun (h1 : ¬ p = 99) => ?_)
  · skip
    refine RQ.seg 2 (pc' := 32) (L' := [some (.int (iI p)), some (.int (iI n))]) (st' := [.int (iI 1)]) (g1 := (HW sc ar tx oc rl ou tl, q)) rfl ?_
    refine RQ.ret rfl rfl ?_
    exfalso; omega
  · skip
    refine RQ.seg 1 (pc' := 7) (L' := [some (.int (iI p)), some (.int (iI n))]) (st' := [.int (iI p)]) (g1 := (HW sc ar tx oc rl ou tl, q)) rfl ?_
    refine RQ.if1 (a := p) rfl rfl rfl (by omega) (fun (h2 : p < 0) => ?_) (fun (h2 : ¬ p < 0) => ?_)
    · skip
      refine RQ.seg 1 (pc' := 32) (L' := [some (.int (iI p)), some (.int (iI n))]) (st' := [.int (iI 0)]) (g1 := (HW sc ar tx oc rl ou tl, q)) rfl ?_
      refine RQ.ret rfl rfl ?_
      exact ⟨rfl, rfl⟩
    · skip
      refine RQ.seg 2 (pc' := 13) (L' := [some (.int (iI p)), some (.int (iI n))]) (st' := [.int (iI 10), .int (iI p)]) (g1 := (HW sc ar tx oc rl ou tl, q)) rfl ?_
      refine RQ.idiv (a := p) (b := 10) rfl rfl rfl (by omega) (by omega) ?_
      refine RQ.seg 1 (pc' := 16) (L' := [some (.int (iI p)), some (.int (iI n))]) (st' := [.int (iI 6), .int (iI (p / 10))]) (g1 := (HW sc ar tx oc rl ou tl, q)) rfl ?_
      refine RQ.if2 (a := (p / 10)) (b := 6) rfl rfl rfl rfl (by omega) (by omega) (fun (h3 : 6 ≤ p / 10) => ?_) (fun (h3 : ¬ 6 ≤ p / 10) => ?_)
      · skip
        refine RQ.seg 1 (pc' := 32) (L' := [some (.int (iI p)), some (.int (iI n))]) (st' := [.int (iI 0)]) (g1 := (HW sc ar tx oc rl ou tl, q)) rfl ?_
        refine RQ.ret rfl rfl ?_
        exact ⟨rfl, rfl⟩
      · skip
        refine RQ.seg 2 (pc' := 22) (L' := [some (.int (iI p)), some (.int (iI n))]) (st' := [.int (iI 10), .int (iI p)]) (g1 := (HW sc ar tx oc rl ou tl, q)) rfl ?_
        refine RQ.irem (a := p) (b := 10) rfl rfl rfl (by omega) (by omega) ?_
        refine RQ.seg 1 (pc' := 24) (L' := [some (.int (iI p)), some (.int (iI n))]) (st' := [.int (iI n), .int (iI (p % 10))]) (g1 := (HW sc ar tx oc rl ou tl, q)) rfl ?_
        refine RQ.if2 (a := (p % 10)) (b := n) rfl rfl rfl rfl (by omega) (by omega) (fun (h4 : n ≤ p % 10) => ?_) (fun (h4 : ¬ n ≤ p % 10) => ?_)
        · skip
          refine RQ.seg 1 (pc' := 32) (L' := [some (.int (iI p)), some (.int (iI n))]) (st' := [.int (iI 0)]) (g1 := (HW sc ar tx oc rl ou tl, q)) rfl ?_
          refine RQ.ret rfl rfl ?_
          exact ⟨rfl, rfl⟩
        · skip
          refine RQ.seg 2 (pc' := 32) (L' := [some (.int (iI p)), some (.int (iI n))]) (st' := [.int (iI 1)]) (g1 := (HW sc ar tx oc rl ou tl, q)) rfl ?_
          refine RQ.ret rfl rfl ?_
          exfalso; omega
def sReaches (nw nb : Int) (W B : Int → Int → Int) (b p : Int) : Int := if (0 ≤ b ∧ b < nb) ∧ (p = 99 ∨ 0 ≤ p ∧ p / 10 < 6 ∧ p % 10 < nw) then (if may nw W B b p then 1 else 0) else -1
theorem m_reaches {K : PK} {d : Nat} {sc : Nat → Int} {ar : Nat → Int → Int} {tx oc : Nat} {rl : Nat → Option Nat} {ou : Nat → Int64} {tl : List PO} {q : Nat × Nat} {b p : Int} {nw nb : Int} {W B : Int → Int → Int} (hF : FrOK nw nb W B) (hM : FrM (sc 8024) (sc 8025) (ar 85) (ar 86) nw nb W B) (rb : -2147483648 ≤ b ∧ b < 2147483648) (rp : -2147483648 ≤ p ∧ p < 2147483648) : CallR K (d + 2) 193 [.ref 80, .int (iI b), .int (iI p)] (HW sc ar tx oc rl ou tl, q) (some (.int (iI (sReaches nw nb W B b p)))) (HW (usc sc 8000 0) ar tx oc rl ou tl, q) := by
  apply CQ.x
  have hn := hF.1
  have hm1 := hM.1
  have hm2 := hM.2.1
  refine CQ.of (own := 11) (n := 3) (ini := false) (rt := (some .int)) (cd := cd193) (by decide +kernel) rfl (by decide +kernel) rfl (Nat.le_of_ble_eq_true rfl) ?_
  refine RQ.seg 5 (pc' := 7) (L' := [some (.ref 80), some (.int (iI b)), some (.int (iI p))]) (st' := [.int (iI b), .ref 80]) (g1 := (HW (usc sc 8000 0) ar tx oc rl ou tl, q)) rfl ?_
  rcases Decidable.em (0 ≤ b ∧ b < nb) with h1 | h1
  · skip
    refine RQ.call rfl rfl (m_isBrN_t (by omega) hM hF h1) ?_
    refine RQ.seg 4 (pc' := 18) (L' := [some (.ref 80), some (.int (iI b)), some (.int (iI p))]) (st' := [.int (iI (sc 8024)), .int (iI p)]) (g1 := (HW (usc sc 8000 0) ar tx oc rl ou tl, q)) rfl ?_
    rcases Decidable.em (p = 99 ∨ 0 ≤ p ∧ p / 10 < 6 ∧ p % 10 < (sc 8024)) with h2 | h2
    · skip
      refine RQ.call rfl rfl (m_isPut_t (by omega) (by omega) h2) ?_
      refine RQ.seg 3 (pc' := 29) (L' := [some (.ref 80), some (.int (iI b)), some (.int (iI p))]) (st' := [.int (iI 99), .int (iI p)]) (g1 := (HW (usc sc 8000 0) ar tx oc rl ou tl, q)) rfl ?_
      refine RQ.if2 (a := p) (b := 99) rfl rfl rfl rfl (by omega) (by omega) (fun (h3 : p = 99) => ?_) (fun (h3 : ¬ p = 99) => ?_)
      · skip
        refine RQ.seg 2 (pc' := 62) (L' := [some (.ref 80), some (.int (iI b)), some (.int (iI p))]) (st' := [.int (iI 1)]) (g1 := (HW (usc sc 8000 0) ar tx oc rl ou tl, q)) rfl ?_
        refine RQ.ret rfl rfl ?_
        refine ⟨?_, rfl⟩
        unfold sReaches
        first | (exfalso; omega) | (rw [if_neg (by omega)]) | (rw [if_pos (by omega)]; first | rw [if_pos (by omega)] | rw [if_neg (by omega)])
      · skip
        refine RQ.seg 8 (pc' := 42) (L' := [some (.ref 80), some (.int (iI b)), some (.int (iI p))]) (st' := [.int (((iI 3) * (iI b)) + (iI 1)), .ref 86, .ref 80]) (g1 := (HW (usc sc 8000 0) ar tx oc rl ou tl, q)) rfl ?_
        have hf1 := hF.2.2 b (by omega) (by omega)
        refine RQ.ialdv (z := (3 * b + 1)) (v := (B b 1)) rfl (by simp only [iI_add, iI_sub, iI_mul, iI_neg]) rfl (by omega) (by decide) (frm_b1 hM (by omega) (by omega)) ?_
        refine RQ.seg 2 (pc' := 46) (L' := [some (.ref 80), some (.int (iI b)), some (.int (iI p))]) (st' := [.int (iI 10), .int (iI p), .int (iI (B b 1)), .ref 80]) (g1 := (HW (usc sc 8000 0) ar tx oc rl ou tl, q)) rfl ?_
        refine RQ.idiv (a := p) (b := 10) rfl rfl rfl (by omega) (by omega) ?_
        refine RQ.seg 2 (pc' := 50) (L' := [some (.ref 80), some (.int (iI b)), some (.int (iI p))]) (st' := [.int (iI 10), .int (iI p), .int (iI (p / 10)), .int (iI (B b 1)), .ref 80]) (g1 := (HW (usc sc 8000 0) ar tx oc rl ou tl, q)) rfl ?_
        refine RQ.irem (a := p) (b := 10) rfl rfl rfl (by omega) (by omega) ?_
        rcases Decidable.em (rch W (B b 1) (p / 10) (p % 10)) with h4 | h4
        · skip
          refine RQ.call rfl rfl (m_rch_t hF hM (by omega) (by omega) (by omega) h4) ?_
          refine RQ.seg 3 (pc' := 62) (L' := [some (.ref 80), some (.int (iI b)), some (.int (iI p))]) (st' := [.int (iI 1)]) (g1 := (HW (usc sc 8000 0) ar tx oc rl ou tl, q)) rfl ?_
          refine RQ.ret rfl rfl ?_
          refine ⟨?_, rfl⟩
          unfold sReaches
          first | (exfalso; omega) | (rw [if_neg (by omega)]) | (rw [if_pos (by omega)]; first | rw [if_pos (by omega)] | rw [if_neg (by omega)])
        · skip
          refine RQ.call rfl rfl (m_rch_f hF hM (by omega) (by omega) (by omega) h4) ?_
          refine RQ.seg 2 (pc' := 62) (L' := [some (.ref 80), some (.int (iI b)), some (.int (iI p))]) (st' := [.int (iI 0)]) (g1 := (HW (usc sc 8000 0) ar tx oc rl ou tl, q)) rfl ?_
          refine RQ.ret rfl rfl ?_
          refine ⟨?_, rfl⟩
          unfold sReaches
          first | (exfalso; omega) | (rw [if_neg (by omega)]) | (rw [if_pos (by omega)]; first | rw [if_pos (by omega)] | rw [if_neg (by omega)])
    · skip
      refine RQ.call rfl rfl (m_isPut_f (by omega) (by omega) h2) ?_
      refine RQ.seg 2 (pc' := 25) (L' := [some (.ref 80), some (.int (iI b)), some (.int (iI p))]) (st' := [.int (iI (-1))]) (g1 := (HW (usc sc 8000 0) ar tx oc rl ou tl, q)) rfl ?_
      refine RQ.ret rfl rfl ?_
      refine ⟨?_, rfl⟩
      unfold sReaches
      first | (exfalso; omega) | (rw [if_neg (by omega)]) | (rw [if_pos (by omega)]; first | rw [if_pos (by omega)] | rw [if_neg (by omega)])
  · skip
    refine RQ.call rfl rfl (m_isBrN_f (by omega) hM hF h1) ?_
    refine RQ.seg 2 (pc' := 25) (L' := [some (.ref 80), some (.int (iI b)), some (.int (iI p))]) (st' := [.int (iI (-1))]) (g1 := (HW (usc sc 8000 0) ar tx oc rl ou tl, q)) rfl ?_
    refine RQ.ret rfl rfl ?_
    refine ⟨?_, rfl⟩
    unfold sReaches
    first | (exfalso; omega) | (rw [if_neg (by omega)]) | (rw [if_pos (by omega)]; first | rw [if_pos (by omega)] | rw [if_neg (by omega)])
theorem x_reaches {K : PK} {d : Nat} {sc : Nat → Int} {ar : Nat → Int → Int} {tx oc : Nat} {rl : Nat → Option Nat} {ou : Nat → Int64} {tl : List PO} {q : Nat × Nat} {b p : Int} {nw nb : Int} {W B : Int → Int → Int} (hF : FrOK nw nb W B) (hX : FrX (sc 303) (sc 304) (ar 5) (ar 6) (ar 7) (ar 8) (ar 10) (ar 11) (ar 12) nw nb W B) (rb : -2147483648 ≤ b ∧ b < 2147483648) (rp : -2147483648 ≤ p ∧ p < 2147483648) : CallR K (d + 3) 114 [.ref 0, .int (iI b), .int (iI p)] (HW sc ar tx oc rl ou tl, q) (some (.int (iI (sReaches nw nb W B b p)))) (HW sc ar tx oc rl ou tl, q) := by
  apply CQ.x
  have hn := hF.1
  have hm1 := hX.1
  have hm2 := hX.2.1
  refine CQ.of (own := 10) (n := 3) (ini := false) (rt := (some .int)) (cd := cd114) (by decide +kernel) rfl (by decide +kernel) rfl (Nat.le_of_ble_eq_true rfl) ?_
  refine RQ.seg 2 (pc' := 2) (L' := [some (.ref 0), some (.int (iI b)), some (.int (iI p))]) (st' := [.int (iI b), .ref 0]) (g1 := (HW sc ar tx oc rl ou tl, q)) rfl ?_
  rcases Decidable.em (0 ≤ b ∧ b < nb) with h1 | h1
  · skip
    refine RQ.call rfl rfl (x_isBrN_t (by omega) hX hF h1) ?_
    refine RQ.seg 3 (pc' := 13) (L' := [some (.ref 0), some (.int (iI b)), some (.int (iI p))]) (st' := [.int (iI 99), .int (iI p)]) (g1 := (HW sc ar tx oc rl ou tl, q)) rfl ?_
    refine RQ.if2 (a := p) (b := 99) rfl rfl rfl rfl (by omega) (by omega) (fun (h2 : p = 99) => ?_) (fun (h2 : ¬ p = 99) => ?_)
    · skip
      refine RQ.seg 4 (pc' := 35) (L' := [some (.ref 0), some (.int (iI b)), some (.int (iI p))]) (st' := [.int (iI p), .int (iI b), .ref 3]) (g1 := (HW sc ar tx oc rl ou tl, q)) rfl ?_
      rcases Decidable.em (may nw W B b p) with h3 | h3
      · skip
        refine RQ.call rfl rfl (x_may_t hF hX (by omega) (by omega) h3) ?_
        refine RQ.seg 3 (pc' := 46) (L' := [some (.ref 0), some (.int (iI b)), some (.int (iI p))]) (st' := [.int (iI 1)]) (g1 := (HW sc ar tx oc rl ou tl, q)) rfl ?_
        refine RQ.ret rfl rfl ?_
        refine ⟨?_, rfl⟩
        unfold sReaches
        first | (exfalso; omega) | (rw [if_neg (by omega)]) | (rw [if_pos (by omega)]; first | rw [if_pos (by omega)] | rw [if_neg (by omega)])
      · skip
        refine RQ.call rfl rfl (x_may_f hF hX (by omega) (by omega) h3) ?_
        refine RQ.seg 2 (pc' := 46) (L' := [some (.ref 0), some (.int (iI b)), some (.int (iI p))]) (st' := [.int (iI 0)]) (g1 := (HW sc ar tx oc rl ou tl, q)) rfl ?_
        refine RQ.ret rfl rfl ?_
        refine ⟨?_, rfl⟩
        unfold sReaches
        first | (exfalso; omega) | (rw [if_neg (by omega)]) | (rw [if_pos (by omega)]; first | rw [if_pos (by omega)] | rw [if_neg (by omega)])
    · skip
      refine RQ.seg 3 (pc' := 21) (L' := [some (.ref 0), some (.int (iI b)), some (.int (iI p))]) (st' := [.int (iI p), .ref 3]) (g1 := (HW sc ar tx oc rl ou tl, q)) rfl ?_
      rcases Decidable.em (0 ≤ p ∧ p / 10 < 6 ∧ p % 10 < nw) with h4 | h4
      · skip
        refine RQ.call rfl rfl (x_isLP_t hF hX (by omega) h4) ?_
        refine RQ.seg 5 (pc' := 35) (L' := [some (.ref 0), some (.int (iI b)), some (.int (iI p))]) (st' := [.int (iI p), .int (iI b), .ref 3]) (g1 := (HW sc ar tx oc rl ou tl, q)) rfl ?_
        rcases Decidable.em (may nw W B b p) with h5 | h5
        · skip
          refine RQ.call rfl rfl (x_may_t hF hX (by omega) (by omega) h5) ?_
          refine RQ.seg 3 (pc' := 46) (L' := [some (.ref 0), some (.int (iI b)), some (.int (iI p))]) (st' := [.int (iI 1)]) (g1 := (HW sc ar tx oc rl ou tl, q)) rfl ?_
          refine RQ.ret rfl rfl ?_
          refine ⟨?_, rfl⟩
          unfold sReaches
          first | (exfalso; omega) | (rw [if_neg (by omega)]) | (rw [if_pos (by omega)]; first | rw [if_pos (by omega)] | rw [if_neg (by omega)])
        · skip
          refine RQ.call rfl rfl (x_may_f hF hX (by omega) (by omega) h5) ?_
          refine RQ.seg 2 (pc' := 46) (L' := [some (.ref 0), some (.int (iI b)), some (.int (iI p))]) (st' := [.int (iI 0)]) (g1 := (HW sc ar tx oc rl ou tl, q)) rfl ?_
          refine RQ.ret rfl rfl ?_
          refine ⟨?_, rfl⟩
          unfold sReaches
          first | (exfalso; omega) | (rw [if_neg (by omega)]) | (rw [if_pos (by omega)]; first | rw [if_pos (by omega)] | rw [if_neg (by omega)])
      · skip
        refine RQ.call rfl rfl (x_isLP_f hF hX (by omega) h4) ?_
        refine RQ.seg 2 (pc' := 28) (L' := [some (.ref 0), some (.int (iI b)), some (.int (iI p))]) (st' := [.int (iI (-1))]) (g1 := (HW sc ar tx oc rl ou tl, q)) rfl ?_
        refine RQ.ret rfl rfl ?_
        refine ⟨?_, rfl⟩
        unfold sReaches
        first | (exfalso; omega) | (rw [if_neg (by omega)]) | (rw [if_pos (by omega)]; first | rw [if_pos (by omega)] | rw [if_neg (by omega)])
  · skip
    refine RQ.call rfl rfl (x_isBrN_f (by omega) hX hF h1) ?_
    refine RQ.seg 2 (pc' := 9) (L' := [some (.ref 0), some (.int (iI b)), some (.int (iI p))]) (st' := [.int (iI (-1))]) (g1 := (HW sc ar tx oc rl ou tl, q)) rfl ?_
    refine RQ.ret rfl rfl ?_
    refine ⟨?_, rfl⟩
    unfold sReaches
    first | (exfalso; omega) | (rw [if_neg (by omega)]) | (rw [if_pos (by omega)]; first | rw [if_pos (by omega)] | rw [if_neg (by omega)])
/-- the windows that a length gets to from some place, as bits -/
def rin (W : Int → Int → Int) (l w : Int) : Nat → Int → Int → Int
  | 0, _, x => x
  | n + 1, p, x => rin W l w n (p + 1) (if rch W l p w then orz x w else x)
def rout (W : Int → Int → Int) (l : Int) : Nat → Int → Int → Int
  | 0, _, x => x
  | n + 1, w, x => rout W l n (w + 1) (rin W l w 6 0 x)
theorem rin_r (W : Int → Int → Int) (l : Int) {w : Int} (hw : 0 ≤ w ∧ w < 4) : ∀ (n : Nat) (p x : Int), 0 ≤ x ∧ x < 16 → 0 ≤ rin W l w n p x ∧ rin W l w n p x < 16
  | 0, _, _, h => h
  | n + 1, p, x, h => by
    unfold rin
    split
    · exact rin_r W l hw n _ _ (orz_r h hw)
    · exact rin_r W l hw n _ _ h
theorem rout_r (W : Int → Int → Int) (l : Int) : ∀ (n : Nat) (w x : Int), 0 ≤ w ∧ w + n ≤ 4 → 0 ≤ x ∧ x < 16 → 0 ≤ rout W l n w x ∧ rout W l n w x < 16
  | 0, _, _, _, h => h
  | n + 1, w, x, hw, h => rout_r W l n _ _ (by omega) (rin_r W l (by omega) 6 0 x h)
theorem m_rin {K : PK} {d : Nat} {sc : Nat → Int} {ar : Nat → Int → Int} {tx oc : Nat} {rl : Nat → Option Nat} {ou : Nat → Int64} {tl : List PO} {q : Nat × Nat} {Q : Option Value → PG → Prop} {l w : Int} {nw nb : Int} {W B : Int → Int → Int} (hF : FrOK nw nb W B) (hM : FrM (sc 8024) (sc 8025) (ar 85) (ar 86) nw nb W B) (hl : 0 ≤ l ∧ l ≤ 30) (hw : 0 ≤ w ∧ w < nw) : ∀ (m : Nat) (p x : Int) (hp : 0 ≤ p ∧ p + m = 6) (hx : 0 ≤ x ∧ x < 16) (hk : ∀ y, y = rin W l w m p x → RQ K (d + 1) 11 false (some .int) cd223 45 [some (.ref 80), some (.int (iI l)), some (.int (iI y)), some (.int (iI w)), some (.int (iI 6))] [] (HW sc ar tx oc rl ou tl, q) Q), RQ K (d + 1) 11 false (some .int) cd223 15 [some (.ref 80), some (.int (iI l)), some (.int (iI x)), some (.int (iI w)), some (.int (iI p))] [] (HW sc ar tx oc rl ou tl, q) Q
  | 0, p, x, hp, hx, hk => by
    have hn := hF.1
    have hm1 := hM.1
    have hm2 := hM.2.1
    refine RQ.seg 2 (pc' := 19) (L' := [some (.ref 80), some (.int (iI l)), some (.int (iI x)), some (.int (iI w)), some (.int (iI p))]) (st' := [.int (iI 6), .int (iI p)]) (g1 := (HW sc ar tx oc rl ou tl, q)) rfl ?_
    refine RQ.if2 (a := p) (b := 6) rfl rfl rfl rfl (by omega) (by omega) (fun _ => ?_) (fun (q : ¬ 6 ≤ p) => absurd (show 6 ≤ p from by omega) q)
    obtain rfl : p = 6 := by omega
    exact hk x rfl
  | m + 1, p, x, hp, hx, hk => by
    have hn := hF.1
    have hm1 := hM.1
    have hm2 := hM.2.1
    refine RQ.seg 2 (pc' := 19) (L' := [some (.ref 80), some (.int (iI l)), some (.int (iI x)), some (.int (iI w)), some (.int (iI p))]) (st' := [.int (iI 6), .int (iI p)]) (g1 := (HW sc ar tx oc rl ou tl, q)) rfl ?_
    refine RQ.if2 (a := p) (b := 6) rfl rfl rfl rfl (by omega) (by omega) (fun (q : 6 ≤ p) => absurd q (show ¬ 6 ≤ p from by omega)) (fun _ => ?_)
    refine RQ.seg 4 (pc' := 27) (L' := [some (.ref 80), some (.int (iI l)), some (.int (iI x)), some (.int (iI w)), some (.int (iI p))]) (st' := [.int (iI w), .int (iI p), .int (iI l), .ref 80]) (g1 := (HW sc ar tx oc rl ou tl, q)) rfl ?_
    rcases Decidable.em (rch W l p w) with h2 | h2
    · skip
      refine RQ.call rfl rfl (m_rch_t hF hM (by omega) (by omega) (by omega) h2) ?_
      refine RQ.seg 4 (pc' := 36) (L' := [some (.ref 80), some (.int (iI l)), some (.int (iI x)), some (.int (iI w)), some (.int (iI p))]) (st' := [.int (iI w), .int (iI 1), .int (iI x)]) (g1 := (HW sc ar tx oc rl ou tl, q)) rfl ?_
      refine RQ.ishl1 (b := w) rfl rfl rfl (by omega) ?_
      refine RQ.ior (a := x) (b := w) rfl rfl rfl (by omega) (by omega) ?_
      refine RQ.seg 3 (pc' := 15) (L' := [some (.ref 80), some (.int (iI l)), some (.int (iI (orz x w))), some (.int (iI w)), some (.int ((iI p) + (iI 1)))]) (st' := []) (g1 := (HW sc ar tx oc rl ou tl, q)) rfl ?_
      refine RQ.to (L' := [some (.ref 80), some (.int (iI l)), some (.int (iI (orz x w))), some (.int (iI w)), some (.int (iI (p + 1)))]) (st' := []) (by simp only [iI_add, iI_sub, iI_mul, iI_neg]) rfl ?_
      exact m_rin hF hM hl hw m (p + 1) (orz x w) (by omega) (orz_r hx (by omega)) (fun y hy => hk y (by rw [hy, rin, if_pos h2]))
    · skip
      refine RQ.call rfl rfl (m_rch_f hF hM (by omega) (by omega) (by omega) h2) ?_
      refine RQ.seg 3 (pc' := 15) (L' := [some (.ref 80), some (.int (iI l)), some (.int (iI x)), some (.int (iI w)), some (.int ((iI p) + (iI 1)))]) (st' := []) (g1 := (HW sc ar tx oc rl ou tl, q)) rfl ?_
      refine RQ.to (L' := [some (.ref 80), some (.int (iI l)), some (.int (iI x)), some (.int (iI w)), some (.int (iI (p + 1)))]) (st' := []) (by simp only [iI_add, iI_sub, iI_mul, iI_neg]) rfl ?_
      exact m_rin hF hM hl hw m (p + 1) x (by omega) hx (fun y hy => hk y (by rw [hy, rin, if_neg h2]))
theorem m_rout {K : PK} {d : Nat} {sc : Nat → Int} {ar : Nat → Int → Int} {tx oc : Nat} {rl : Nat → Option Nat} {ou : Nat → Int64} {tl : List PO} {q : Nat × Nat} {Q : Option Value → PG → Prop} {l : Int} {nw nb : Int} {W B : Int → Int → Int} (hF : FrOK nw nb W B) (hM : FrM (sc 8024) (sc 8025) (ar 85) (ar 86) nw nb W B) (hl : 0 ≤ l ∧ l ≤ 30) : ∀ (m : Nat) (w x : Int) (e : Option Value) (hw : 0 ≤ w ∧ w + m = nw) (hx : 0 ≤ x ∧ x < 16) (hk : Q (some (.int (iI (rout W l m w x)))) (HW sc ar tx oc rl ou tl, q)), RQ K (d + 1) 11 false (some .int) cd223 4 [some (.ref 80), some (.int (iI l)), some (.int (iI x)), some (.int (iI w)), e] [] (HW sc ar tx oc rl ou tl, q) Q
  | 0, w, x, e, hw, hx, hk => by
    have hn := hF.1
    have hm1 := hM.1
    have hm2 := hM.2.1
    refine RQ.seg 3 (pc' := 9) (L' := [some (.ref 80), some (.int (iI l)), some (.int (iI x)), some (.int (iI w)), e]) (st' := [.int (iI (sc 8024)), .int (iI w)]) (g1 := (HW sc ar tx oc rl ou tl, q)) rfl ?_
    refine RQ.if2 (a := w) (b := (sc 8024)) rfl rfl rfl rfl (by omega) (by omega) (fun _ => ?_) (fun (q : ¬ sc 8024 ≤ w) => absurd (show sc 8024 ≤ w from by omega) q)
    refine RQ.seg 1 (pc' := 52) (L' := [some (.ref 80), some (.int (iI l)), some (.int (iI x)), some (.int (iI w)), e]) (st' := [.int (iI x)]) (g1 := (HW sc ar tx oc rl ou tl, q)) rfl ?_
    refine RQ.ret rfl rfl ?_
    exact hk
  | m + 1, w, x, e, hw, hx, hk => by
    have hn := hF.1
    have hm1 := hM.1
    have hm2 := hM.2.1
    refine RQ.seg 3 (pc' := 9) (L' := [some (.ref 80), some (.int (iI l)), some (.int (iI x)), some (.int (iI w)), e]) (st' := [.int (iI (sc 8024)), .int (iI w)]) (g1 := (HW sc ar tx oc rl ou tl, q)) rfl ?_
    refine RQ.if2 (a := w) (b := (sc 8024)) rfl rfl rfl rfl (by omega) (by omega) (fun (q : sc 8024 ≤ w) => absurd q (show ¬ sc 8024 ≤ w from by omega)) (fun _ => ?_)
    refine RQ.seg 2 (pc' := 15) (L' := [some (.ref 80), some (.int (iI l)), some (.int (iI x)), some (.int (iI w)), some (.int (iI 0))]) (st' := []) (g1 := (HW sc ar tx oc rl ou tl, q)) rfl ?_
    refine m_rin hF hM hl (by omega) 6 0 x (by omega) hx (fun y hy => ?_)
    refine RQ.seg 2 (pc' := 4) (L' := [some (.ref 80), some (.int (iI l)), some (.int (iI y)), some (.int ((iI w) + (iI 1))), some (.int (iI 6))]) (st' := []) (g1 := (HW sc ar tx oc rl ou tl, q)) rfl ?_
    refine RQ.to (L' := [some (.ref 80), some (.int (iI l)), some (.int (iI y)), some (.int (iI (w + 1))), some (.int (iI 6))]) (st' := []) (by simp only [iI_add, iI_sub, iI_mul, iI_neg]) rfl ?_
    subst hy
    exact m_rout hF hM hl m (w + 1) _ _ (by omega) (rin_r W l (by omega) 6 0 x hx) hk
theorem m_reachBy {K : PK} {d : Nat} {sc : Nat → Int} {ar : Nat → Int → Int} {tx oc : Nat} {rl : Nat → Option Nat} {ou : Nat → Int64} {tl : List PO} {q : Nat × Nat} {l : Int} {nw nb : Int} {W B : Int → Int → Int} (hF : FrOK nw nb W B) (hM : FrM (sc 8024) (sc 8025) (ar 85) (ar 86) nw nb W B) (hl : 0 ≤ l ∧ l ≤ 30) : CallR K (d + 2) 223 [.ref 80, .int (iI l)] (HW sc ar tx oc rl ou tl, q) (some (.int (iI (rout W l nw.toNat 0 0)))) (HW sc ar tx oc rl ou tl, q) := by
  apply CQ.x
  have hn := hF.1
  have hm1 := hM.1
  have hm2 := hM.2.1
  refine CQ.of (own := 11) (n := 5) (ini := false) (rt := (some .int)) (cd := cd223) (by decide +kernel) rfl (by decide +kernel) rfl (Nat.le_of_ble_eq_true rfl) ?_
  refine RQ.seg 4 (pc' := 4) (L' := [some (.ref 80), some (.int (iI l)), some (.int (iI 0)), some (.int (iI 0)), none]) (st' := []) (g1 := (HW sc ar tx oc rl ou tl, q)) rfl ?_
  exact m_rout hF hM hl nw.toNat 0 0 _ (by omega) (by omega) ⟨rfl, rfl⟩
theorem x_rin {K : PK} {d : Nat} {sc : Nat → Int} {ar : Nat → Int → Int} {tx oc : Nat} {rl : Nat → Option Nat} {ou : Nat → Int64} {tl : List PO} {q : Nat × Nat} {Q : Option Value → PG → Prop} {l w : Int} {nw nb : Int} {W B : Int → Int → Int} (hF : FrOK nw nb W B) (hX : FrX (sc 303) (sc 304) (ar 5) (ar 6) (ar 7) (ar 8) (ar 10) (ar 11) (ar 12) nw nb W B) (hl : 0 ≤ l ∧ l ≤ 30) (hw : 0 ≤ w ∧ w < nw) : ∀ (m : Nat) (p x : Int) (hp : 0 ≤ p ∧ p + m = 6) (hx : 0 ≤ x ∧ x < 16) (hk : ∀ y, y = rin W l w m p x → RQ K (d + 1) 2 false (some .int) cd23 45 [some (.ref 3), some (.int (iI l)), some (.int (iI y)), some (.int (iI w)), some (.int (iI 6))] [] (HW sc ar tx oc rl ou tl, q) Q), RQ K (d + 1) 2 false (some .int) cd23 15 [some (.ref 3), some (.int (iI l)), some (.int (iI x)), some (.int (iI w)), some (.int (iI p))] [] (HW sc ar tx oc rl ou tl, q) Q
  | 0, p, x, hp, hx, hk => by
    have hn := hF.1
    have hm1 := hX.1
    have hm2 := hX.2.1
    refine RQ.seg 2 (pc' := 19) (L' := [some (.ref 3), some (.int (iI l)), some (.int (iI x)), some (.int (iI w)), some (.int (iI p))]) (st' := [.int (iI 6), .int (iI p)]) (g1 := (HW sc ar tx oc rl ou tl, q)) rfl ?_
    refine RQ.if2 (a := p) (b := 6) rfl rfl rfl rfl (by omega) (by omega) (fun _ => ?_) (fun (q : ¬ 6 ≤ p) => absurd (show 6 ≤ p from by omega) q)
    obtain rfl : p = 6 := by omega
    exact hk x rfl
  | m + 1, p, x, hp, hx, hk => by
    have hn := hF.1
    have hm1 := hX.1
    have hm2 := hX.2.1
    refine RQ.seg 2 (pc' := 19) (L' := [some (.ref 3), some (.int (iI l)), some (.int (iI x)), some (.int (iI w)), some (.int (iI p))]) (st' := [.int (iI 6), .int (iI p)]) (g1 := (HW sc ar tx oc rl ou tl, q)) rfl ?_
    refine RQ.if2 (a := p) (b := 6) rfl rfl rfl rfl (by omega) (by omega) (fun (q : 6 ≤ p) => absurd q (show ¬ 6 ≤ p from by omega)) (fun _ => ?_)
    refine RQ.seg 4 (pc' := 27) (L' := [some (.ref 3), some (.int (iI l)), some (.int (iI x)), some (.int (iI w)), some (.int (iI p))]) (st' := [.int (iI w), .int (iI p), .int (iI l), .ref 3]) (g1 := (HW sc ar tx oc rl ou tl, q)) rfl ?_
    rcases Decidable.em (rch W l p w) with h2 | h2
    · skip
      refine RQ.call rfl rfl (x_rch_t hF hX (by omega) (by omega) (by omega) h2) ?_
      refine RQ.seg 4 (pc' := 36) (L' := [some (.ref 3), some (.int (iI l)), some (.int (iI x)), some (.int (iI w)), some (.int (iI p))]) (st' := [.int (iI w), .int (iI 1), .int (iI x)]) (g1 := (HW sc ar tx oc rl ou tl, q)) rfl ?_
      refine RQ.ishl1 (b := w) rfl rfl rfl (by omega) ?_
      refine RQ.ior (a := x) (b := w) rfl rfl rfl (by omega) (by omega) ?_
      refine RQ.seg 3 (pc' := 15) (L' := [some (.ref 3), some (.int (iI l)), some (.int (iI (orz x w))), some (.int (iI w)), some (.int ((iI p) + (iI 1)))]) (st' := []) (g1 := (HW sc ar tx oc rl ou tl, q)) rfl ?_
      refine RQ.to (L' := [some (.ref 3), some (.int (iI l)), some (.int (iI (orz x w))), some (.int (iI w)), some (.int (iI (p + 1)))]) (st' := []) (by simp only [iI_add, iI_sub, iI_mul, iI_neg]) rfl ?_
      exact x_rin hF hX hl hw m (p + 1) (orz x w) (by omega) (orz_r hx (by omega)) (fun y hy => hk y (by rw [hy, rin, if_pos h2]))
    · skip
      refine RQ.call rfl rfl (x_rch_f hF hX (by omega) (by omega) (by omega) h2) ?_
      refine RQ.seg 3 (pc' := 15) (L' := [some (.ref 3), some (.int (iI l)), some (.int (iI x)), some (.int (iI w)), some (.int ((iI p) + (iI 1)))]) (st' := []) (g1 := (HW sc ar tx oc rl ou tl, q)) rfl ?_
      refine RQ.to (L' := [some (.ref 3), some (.int (iI l)), some (.int (iI x)), some (.int (iI w)), some (.int (iI (p + 1)))]) (st' := []) (by simp only [iI_add, iI_sub, iI_mul, iI_neg]) rfl ?_
      exact x_rin hF hX hl hw m (p + 1) x (by omega) hx (fun y hy => hk y (by rw [hy, rin, if_neg h2]))
theorem x_rout {K : PK} {d : Nat} {sc : Nat → Int} {ar : Nat → Int → Int} {tx oc : Nat} {rl : Nat → Option Nat} {ou : Nat → Int64} {tl : List PO} {q : Nat × Nat} {Q : Option Value → PG → Prop} {l : Int} {nw nb : Int} {W B : Int → Int → Int} (hF : FrOK nw nb W B) (hX : FrX (sc 303) (sc 304) (ar 5) (ar 6) (ar 7) (ar 8) (ar 10) (ar 11) (ar 12) nw nb W B) (hl : 0 ≤ l ∧ l ≤ 30) : ∀ (m : Nat) (w x : Int) (e : Option Value) (hw : 0 ≤ w ∧ w + m = nw) (hx : 0 ≤ x ∧ x < 16) (hk : Q (some (.int (iI (rout W l m w x)))) (HW sc ar tx oc rl ou tl, q)), RQ K (d + 1) 2 false (some .int) cd23 4 [some (.ref 3), some (.int (iI l)), some (.int (iI x)), some (.int (iI w)), e] [] (HW sc ar tx oc rl ou tl, q) Q
  | 0, w, x, e, hw, hx, hk => by
    have hn := hF.1
    have hm1 := hX.1
    have hm2 := hX.2.1
    refine RQ.seg 3 (pc' := 9) (L' := [some (.ref 3), some (.int (iI l)), some (.int (iI x)), some (.int (iI w)), e]) (st' := [.int (iI (sc 303)), .int (iI w)]) (g1 := (HW sc ar tx oc rl ou tl, q)) rfl ?_
    refine RQ.if2 (a := w) (b := (sc 303)) rfl rfl rfl rfl (by omega) (by omega) (fun _ => ?_) (fun (q : ¬ sc 303 ≤ w) => absurd (show sc 303 ≤ w from by omega) q)
    refine RQ.seg 1 (pc' := 52) (L' := [some (.ref 3), some (.int (iI l)), some (.int (iI x)), some (.int (iI w)), e]) (st' := [.int (iI x)]) (g1 := (HW sc ar tx oc rl ou tl, q)) rfl ?_
    refine RQ.ret rfl rfl ?_
    exact hk
  | m + 1, w, x, e, hw, hx, hk => by
    have hn := hF.1
    have hm1 := hX.1
    have hm2 := hX.2.1
    refine RQ.seg 3 (pc' := 9) (L' := [some (.ref 3), some (.int (iI l)), some (.int (iI x)), some (.int (iI w)), e]) (st' := [.int (iI (sc 303)), .int (iI w)]) (g1 := (HW sc ar tx oc rl ou tl, q)) rfl ?_
    refine RQ.if2 (a := w) (b := (sc 303)) rfl rfl rfl rfl (by omega) (by omega) (fun (q : sc 303 ≤ w) => absurd q (show ¬ sc 303 ≤ w from by omega)) (fun _ => ?_)
    refine RQ.seg 2 (pc' := 15) (L' := [some (.ref 3), some (.int (iI l)), some (.int (iI x)), some (.int (iI w)), some (.int (iI 0))]) (st' := []) (g1 := (HW sc ar tx oc rl ou tl, q)) rfl ?_
    refine x_rin hF hX hl (by omega) 6 0 x (by omega) hx (fun y hy => ?_)
    refine RQ.seg 2 (pc' := 4) (L' := [some (.ref 3), some (.int (iI l)), some (.int (iI y)), some (.int ((iI w) + (iI 1))), some (.int (iI 6))]) (st' := []) (g1 := (HW sc ar tx oc rl ou tl, q)) rfl ?_
    refine RQ.to (L' := [some (.ref 3), some (.int (iI l)), some (.int (iI y)), some (.int (iI (w + 1))), some (.int (iI 6))]) (st' := []) (by simp only [iI_add, iI_sub, iI_mul, iI_neg]) rfl ?_
    subst hy
    exact x_rout hF hX hl m (w + 1) _ _ (by omega) (rin_r W l (by omega) 6 0 x hx) hk
theorem x_reachBy {K : PK} {d : Nat} {sc : Nat → Int} {ar : Nat → Int → Int} {tx oc : Nat} {rl : Nat → Option Nat} {ou : Nat → Int64} {tl : List PO} {q : Nat × Nat} {l : Int} {nw nb : Int} {W B : Int → Int → Int} (hF : FrOK nw nb W B) (hX : FrX (sc 303) (sc 304) (ar 5) (ar 6) (ar 7) (ar 8) (ar 10) (ar 11) (ar 12) nw nb W B) (hl : 0 ≤ l ∧ l ≤ 30) : CallR K (d + 2) 23 [.ref 3, .int (iI l)] (HW sc ar tx oc rl ou tl, q) (some (.int (iI (rout W l nw.toNat 0 0)))) (HW sc ar tx oc rl ou tl, q) := by
  apply CQ.x
  have hn := hF.1
  have hm1 := hX.1
  have hm2 := hX.2.1
  refine CQ.of (own := 2) (n := 5) (ini := false) (rt := (some .int)) (cd := cd23) (by decide +kernel) rfl (by decide +kernel) rfl (Nat.le_of_ble_eq_true rfl) ?_
  refine RQ.seg 4 (pc' := 4) (L' := [some (.ref 3), some (.int (iI l)), some (.int (iI 0)), some (.int (iI 0)), none]) (st' := []) (g1 := (HW sc ar tx oc rl ou tl, q)) rfl ?_
  exact x_rout hF hX hl nw.toNat 0 0 _ (by omega) (by omega) ⟨rfl, rfl⟩
def sReach (nw nb : Int) (W B : Int → Int → Int) (b : Int) : Int := if 0 ≤ b ∧ b < nb then rout W (B b 1) nw.toNat 0 0 else -1
def sJoined (nw nb : Int) (W B : Int → Int → Int) (b c : Int) : Int := if (0 ≤ b ∧ b < nb) ∧ (0 ≤ c ∧ c < nb) ∧ b ≠ c then rout W (B b 1 + B c 1 - 1) nw.toNat 0 0 else -1
theorem m_reach {K : PK} {d : Nat} {sc : Nat → Int} {ar : Nat → Int → Int} {tx oc : Nat} {rl : Nat → Option Nat} {ou : Nat → Int64} {tl : List PO} {q : Nat × Nat} {b : Int} {nw nb : Int} {W B : Int → Int → Int} (hF : FrOK nw nb W B) (hM : FrM (sc 8024) (sc 8025) (ar 85) (ar 86) nw nb W B) (rb : -2147483648 ≤ b ∧ b < 2147483648) : CallR K (d + 3) 225 [.ref 80, .int (iI b)] (HW sc ar tx oc rl ou tl, q) (some (.int (iI (sReach nw nb W B b)))) (HW (usc sc 8000 0) ar tx oc rl ou tl, q) := by
  apply CQ.x
  have hn := hF.1
  have hm1 := hM.1
  have hm2 := hM.2.1
  refine CQ.of (own := 11) (n := 2) (ini := false) (rt := (some .int)) (cd := cd225) (by decide +kernel) rfl (by decide +kernel) rfl (Nat.le_of_ble_eq_true rfl) ?_
  refine RQ.seg 5 (pc' := 7) (L' := [some (.ref 80), some (.int (iI b))]) (st' := [.int (iI b), .ref 80]) (g1 := (HW (usc sc 8000 0) ar tx oc rl ou tl, q)) rfl ?_
  rcases Decidable.em (0 ≤ b ∧ b < nb) with h1 | h1
  · skip
    refine RQ.call rfl rfl (m_isBrN_t (by omega) hM hF h1) ?_
    refine RQ.seg 9 (pc' := 23) (L' := [some (.ref 80), some (.int (iI b))]) (st' := [.int (((iI 3) * (iI b)) + (iI 1)), .ref 86, .ref 80]) (g1 := (HW (usc sc 8000 0) ar tx oc rl ou tl, q)) rfl ?_
    have hf1 := hF.2.2 b (by omega) (by omega)
    refine RQ.ialdv (z := (3 * b + 1)) (v := (B b 1)) rfl (by simp only [iI_add, iI_sub, iI_mul, iI_neg]) rfl (by omega) (by decide) (frm_b1 hM (by omega) (by omega)) ?_
    refine RQ.call rfl rfl (m_reachBy hF hM (l := (B b 1)) (by omega)) ?_
    refine RQ.seg 1 (pc' := 31) (L' := [some (.ref 80), some (.int (iI b))]) (st' := [.int (iI (rout W (B b 1) nw.toNat 0 0))]) (g1 := (HW (usc sc 8000 0) ar tx oc rl ou tl, q)) rfl ?_
    refine RQ.ret rfl rfl ?_
    refine ⟨?_, ?_⟩ <;> ((try unfold sReach); (repeat (first | rw [if_pos (by omega)] | rw [if_neg (by omega)])); (try rfl))
  · skip
    refine RQ.call rfl rfl (m_isBrN_f (by omega) hM hF h1) ?_
    refine RQ.seg 2 (pc' := 31) (L' := [some (.ref 80), some (.int (iI b))]) (st' := [.int (iI (-1))]) (g1 := (HW (usc sc 8000 0) ar tx oc rl ou tl, q)) rfl ?_
    refine RQ.ret rfl rfl ?_
    refine ⟨?_, ?_⟩ <;> ((try unfold sReach); (repeat (first | rw [if_pos (by omega)] | rw [if_neg (by omega)])); (try rfl))
theorem m_joined {K : PK} {d : Nat} {sc : Nat → Int} {ar : Nat → Int → Int} {tx oc : Nat} {rl : Nat → Option Nat} {ou : Nat → Int64} {tl : List PO} {q : Nat × Nat} {b c : Int} {nw nb : Int} {W B : Int → Int → Int} (hF : FrOK nw nb W B) (hM : FrM (sc 8024) (sc 8025) (ar 85) (ar 86) nw nb W B) (rb : -2147483648 ≤ b ∧ b < 2147483648) (rc : -2147483648 ≤ c ∧ c < 2147483648) : CallR K (d + 3) 224 [.ref 80, .int (iI b), .int (iI c)] (HW sc ar tx oc rl ou tl, q) (some (.int (iI (sJoined nw nb W B b c)))) (HW (usc sc 8000 0) ar tx oc rl ou tl, q) := by
  apply CQ.x
  have hn := hF.1
  have hm1 := hM.1
  have hm2 := hM.2.1
  refine CQ.of (own := 11) (n := 3) (ini := false) (rt := (some .int)) (cd := cd224) (by decide +kernel) rfl (by decide +kernel) rfl (Nat.le_of_ble_eq_true rfl) ?_
  refine RQ.seg 5 (pc' := 7) (L' := [some (.ref 80), some (.int (iI b)), some (.int (iI c))]) (st' := [.int (iI b), .ref 80]) (g1 := (HW (usc sc 8000 0) ar tx oc rl ou tl, q)) rfl ?_
  rcases Decidable.em (0 ≤ b ∧ b < nb) with h1 | h1
  · skip
    refine RQ.call rfl rfl (m_isBrN_t (by omega) hM hF h1) ?_
    refine RQ.seg 3 (pc' := 15) (L' := [some (.ref 80), some (.int (iI b)), some (.int (iI c))]) (st' := [.int (iI c), .ref 80]) (g1 := (HW (usc sc 8000 0) ar tx oc rl ou tl, q)) rfl ?_
    rcases Decidable.em (0 ≤ c ∧ c < nb) with h2 | h2
    · skip
      refine RQ.call rfl rfl (m_isBrN_t (by omega) hM hF h2) ?_
      refine RQ.seg 3 (pc' := 23) (L' := [some (.ref 80), some (.int (iI b)), some (.int (iI c))]) (st' := [.int (iI c), .int (iI b)]) (g1 := (HW (usc sc 8000 0) ar tx oc rl ou tl, q)) rfl ?_
      refine RQ.if2 (a := b) (b := c) rfl rfl rfl rfl (by omega) (by omega) (fun (h3 : b ≠ c) => ?_) (fun (h3 : ¬ b ≠ c) => ?_)
      · skip
        refine RQ.seg 8 (pc' := 40) (L' := [some (.ref 80), some (.int (iI b)), some (.int (iI c))]) (st' := [.int (((iI 3) * (iI b)) + (iI 1)), .ref 86, .ref 80]) (g1 := (HW (usc sc 8000 0) ar tx oc rl ou tl, q)) rfl ?_
        have hf1 := hF.2.2 b (by omega) (by omega)
        refine RQ.ialdv (z := (3 * b + 1)) (v := (B b 1)) rfl (by simp only [iI_add, iI_sub, iI_mul, iI_neg]) rfl (by omega) (by decide) (frm_b1 hM (by omega) (by omega)) ?_
        refine RQ.seg 7 (pc' := 50) (L' := [some (.ref 80), some (.int (iI b)), some (.int (iI c))]) (st' := [.int (((iI 3) * (iI c)) + (iI 1)), .ref 86, .int (iI (B b 1)), .ref 80]) (g1 := (HW (usc sc 8000 0) ar tx oc rl ou tl, q)) rfl ?_
        have hf2 := hF.2.2 c (by omega) (by omega)
        refine RQ.ialdv (z := (3 * c + 1)) (v := (B c 1)) rfl (by simp only [iI_add, iI_sub, iI_mul, iI_neg]) rfl (by omega) (by decide) (frm_b1 hM (by omega) (by omega)) ?_
        refine RQ.seg 3 (pc' := 54) (L' := [some (.ref 80), some (.int (iI b)), some (.int (iI c))]) (st' := [.int (((iI (B b 1)) + (iI (B c 1))) - (iI 1)), .ref 80]) (g1 := (HW (usc sc 8000 0) ar tx oc rl ou tl, q)) rfl ?_
        refine RQ.to (L' := [some (.ref 80), some (.int (iI b)), some (.int (iI c))]) (st' := [.int (iI (B b 1 + (B c 1) - 1)), .ref 80]) rfl (by simp only [iI_add, iI_sub, iI_mul, iI_neg]) ?_
        refine RQ.call rfl rfl (m_reachBy hF hM (l := (B b 1 + (B c 1) - 1)) (by omega)) ?_
        refine RQ.ret rfl rfl ?_
        refine ⟨?_, ?_⟩ <;> ((try unfold sJoined); (repeat (first | rw [if_pos (by omega)] | rw [if_neg (by omega)])); (try rfl))
      · skip
        refine RQ.seg 2 (pc' := 57) (L' := [some (.ref 80), some (.int (iI b)), some (.int (iI c))]) (st' := [.int (iI (-1))]) (g1 := (HW (usc sc 8000 0) ar tx oc rl ou tl, q)) rfl ?_
        refine RQ.ret rfl rfl ?_
        refine ⟨?_, ?_⟩ <;> ((try unfold sJoined); (repeat (first | rw [if_pos (by omega)] | rw [if_neg (by omega)])); (try rfl))
    · skip
      refine RQ.call rfl rfl (m_isBrN_f (by omega) hM hF h2) ?_
      refine RQ.seg 3 (pc' := 57) (L' := [some (.ref 80), some (.int (iI b)), some (.int (iI c))]) (st' := [.int (iI (-1))]) (g1 := (HW (usc sc 8000 0) ar tx oc rl ou tl, q)) rfl ?_
      refine RQ.ret rfl rfl ?_
      refine ⟨?_, ?_⟩ <;> ((try unfold sJoined); (repeat (first | rw [if_pos (by omega)] | rw [if_neg (by omega)])); (try rfl))
  · skip
    refine RQ.call rfl rfl (m_isBrN_f (by omega) hM hF h1) ?_
    refine RQ.seg 3 (pc' := 57) (L' := [some (.ref 80), some (.int (iI b)), some (.int (iI c))]) (st' := [.int (iI (-1))]) (g1 := (HW (usc sc 8000 0) ar tx oc rl ou tl, q)) rfl ?_
    refine RQ.ret rfl rfl ?_
    refine ⟨?_, ?_⟩ <;> ((try unfold sJoined); (repeat (first | rw [if_pos (by omega)] | rw [if_neg (by omega)])); (try rfl))
theorem x_reach {K : PK} {d : Nat} {sc : Nat → Int} {ar : Nat → Int → Int} {tx oc : Nat} {rl : Nat → Option Nat} {ou : Nat → Int64} {tl : List PO} {q : Nat × Nat} {b : Int} {nw nb : Int} {W B : Int → Int → Int} (hF : FrOK nw nb W B) (hX : FrX (sc 303) (sc 304) (ar 5) (ar 6) (ar 7) (ar 8) (ar 10) (ar 11) (ar 12) nw nb W B) (rb : -2147483648 ≤ b ∧ b < 2147483648) : CallR K (d + 3) 129 [.ref 0, .int (iI b)] (HW sc ar tx oc rl ou tl, q) (some (.int (iI (sReach nw nb W B b)))) (HW sc ar tx oc rl ou tl, q) := by
  apply CQ.x
  have hn := hF.1
  have hm1 := hX.1
  have hm2 := hX.2.1
  refine CQ.of (own := 10) (n := 2) (ini := false) (rt := (some .int)) (cd := cd129) (by decide +kernel) rfl (by decide +kernel) rfl (Nat.le_of_ble_eq_true rfl) ?_
  refine RQ.seg 2 (pc' := 2) (L' := [some (.ref 0), some (.int (iI b))]) (st' := [.int (iI b), .ref 0]) (g1 := (HW sc ar tx oc rl ou tl, q)) rfl ?_
  rcases Decidable.em (0 ≤ b ∧ b < nb) with h1 | h1
  · skip
    refine RQ.call rfl rfl (x_isBrN_t (by omega) hX hF h1) ?_
    refine RQ.seg 7 (pc' := 22) (L' := [some (.ref 0), some (.int (iI b))]) (st' := [.int (iI b), .ref 9, .ref 3]) (g1 := (HW sc ar tx oc rl ou tl, q)) rfl ?_
    refine RQ.aald (z := b) rfl rfl rfl (by omega) (by decide) ?_
    refine RQ.seg 1 (pc' := 24) (L' := [some (.ref 0), some (.int (iI b))]) (st' := [.int (iI 1), .ref (10 + b.toNat), .ref 3]) (g1 := (HW sc ar tx oc rl ou tl, q)) rfl ?_
    have hf1 := hF.2.2 b (by omega) (by omega)
    refine RQ.ialdv (z := 1) (v := (B b 1)) rfl rfl (HW_r9 (by omega)) (by omega) (by decide) (frx_b (j := 1) hX (by omega) (by omega) (by omega) (by omega) hF.1.2.2.2) ?_
    refine RQ.call rfl rfl (x_reachBy hF hX (l := (B b 1)) (by omega)) ?_
    refine RQ.ret rfl rfl ?_
    refine ⟨?_, ?_⟩ <;> ((try unfold sReach); (repeat (first | rw [if_pos (by omega)] | rw [if_neg (by omega)])); (try rfl))
  · skip
    refine RQ.call rfl rfl (x_isBrN_f (by omega) hX hF h1) ?_
    refine RQ.seg 2 (pc' := 9) (L' := [some (.ref 0), some (.int (iI b))]) (st' := [.int (iI (-1))]) (g1 := (HW sc ar tx oc rl ou tl, q)) rfl ?_
    refine RQ.ret rfl rfl ?_
    refine ⟨?_, ?_⟩ <;> ((try unfold sReach); (repeat (first | rw [if_pos (by omega)] | rw [if_neg (by omega)])); (try rfl))
theorem x_joined {K : PK} {d : Nat} {sc : Nat → Int} {ar : Nat → Int → Int} {tx oc : Nat} {rl : Nat → Option Nat} {ou : Nat → Int64} {tl : List PO} {q : Nat × Nat} {b c : Int} {nw nb : Int} {W B : Int → Int → Int} (hF : FrOK nw nb W B) (hX : FrX (sc 303) (sc 304) (ar 5) (ar 6) (ar 7) (ar 8) (ar 10) (ar 11) (ar 12) nw nb W B) (rb : -2147483648 ≤ b ∧ b < 2147483648) (rc : -2147483648 ≤ c ∧ c < 2147483648) : CallR K (d + 3) 128 [.ref 0, .int (iI b), .int (iI c)] (HW sc ar tx oc rl ou tl, q) (some (.int (iI (sJoined nw nb W B b c)))) (HW sc ar tx oc rl ou tl, q) := by
  apply CQ.x
  have hn := hF.1
  have hm1 := hX.1
  have hm2 := hX.2.1
  refine CQ.of (own := 10) (n := 3) (ini := false) (rt := (some .int)) (cd := cd128) (by decide +kernel) rfl (by decide +kernel) rfl (Nat.le_of_ble_eq_true rfl) ?_
  refine RQ.seg 2 (pc' := 2) (L' := [some (.ref 0), some (.int (iI b)), some (.int (iI c))]) (st' := [.int (iI b), .ref 0]) (g1 := (HW sc ar tx oc rl ou tl, q)) rfl ?_
  rcases Decidable.em (0 ≤ b ∧ b < nb) with h1 | h1
  · skip
    refine RQ.call rfl rfl (x_isBrN_t (by omega) hX hF h1) ?_
    refine RQ.seg 3 (pc' := 10) (L' := [some (.ref 0), some (.int (iI b)), some (.int (iI c))]) (st' := [.int (iI c), .ref 0]) (g1 := (HW sc ar tx oc rl ou tl, q)) rfl ?_
    rcases Decidable.em (0 ≤ c ∧ c < nb) with h2 | h2
    · skip
      refine RQ.call rfl rfl (x_isBrN_t (by omega) hX hF h2) ?_
      refine RQ.seg 3 (pc' := 18) (L' := [some (.ref 0), some (.int (iI b)), some (.int (iI c))]) (st' := [.int (iI c), .int (iI b)]) (g1 := (HW sc ar tx oc rl ou tl, q)) rfl ?_
      refine RQ.if2 (a := b) (b := c) rfl rfl rfl rfl (by omega) (by omega) (fun (h3 : b ≠ c) => ?_) (fun (h3 : ¬ b ≠ c) => ?_)
      · skip
        refine RQ.seg 6 (pc' := 35) (L' := [some (.ref 0), some (.int (iI b)), some (.int (iI c))]) (st' := [.int (iI b), .ref 9, .ref 3]) (g1 := (HW sc ar tx oc rl ou tl, q)) rfl ?_
        refine RQ.aald (z := b) rfl rfl rfl (by omega) (by decide) ?_
        refine RQ.seg 1 (pc' := 37) (L' := [some (.ref 0), some (.int (iI b)), some (.int (iI c))]) (st' := [.int (iI 1), .ref (10 + b.toNat), .ref 3]) (g1 := (HW sc ar tx oc rl ou tl, q)) rfl ?_
        have hf1 := hF.2.2 b (by omega) (by omega)
        refine RQ.ialdv (z := 1) (v := (B b 1)) rfl rfl (HW_r9 (by omega)) (by omega) (by decide) (frx_b (j := 1) hX (by omega) (by omega) (by omega) (by omega) hF.1.2.2.2) ?_
        refine RQ.seg 4 (pc' := 46) (L' := [some (.ref 0), some (.int (iI b)), some (.int (iI c))]) (st' := [.int (iI c), .ref 9, .int (iI (B b 1)), .ref 3]) (g1 := (HW sc ar tx oc rl ou tl, q)) rfl ?_
        refine RQ.aald (z := c) rfl rfl rfl (by omega) (by decide) ?_
        refine RQ.seg 1 (pc' := 48) (L' := [some (.ref 0), some (.int (iI b)), some (.int (iI c))]) (st' := [.int (iI 1), .ref (10 + c.toNat), .int (iI (B b 1)), .ref 3]) (g1 := (HW sc ar tx oc rl ou tl, q)) rfl ?_
        have hf2 := hF.2.2 c (by omega) (by omega)
        refine RQ.ialdv (z := 1) (v := (B c 1)) rfl rfl (HW_r9 (by omega)) (by omega) (by decide) (frx_b (j := 1) hX (by omega) (by omega) (by omega) (by omega) hF.1.2.2.2) ?_
        refine RQ.seg 3 (pc' := 52) (L' := [some (.ref 0), some (.int (iI b)), some (.int (iI c))]) (st' := [.int (((iI (B b 1)) + (iI (B c 1))) - (iI 1)), .ref 3]) (g1 := (HW sc ar tx oc rl ou tl, q)) rfl ?_
        refine RQ.to (L' := [some (.ref 0), some (.int (iI b)), some (.int (iI c))]) (st' := [.int (iI (B b 1 + (B c 1) - 1)), .ref 3]) rfl (by simp only [iI_add, iI_sub, iI_mul, iI_neg]) ?_
        refine RQ.call rfl rfl (x_reachBy hF hX (l := (B b 1 + (B c 1) - 1)) (by omega)) ?_
        refine RQ.ret rfl rfl ?_
        refine ⟨?_, ?_⟩ <;> ((try unfold sJoined); (repeat (first | rw [if_pos (by omega)] | rw [if_neg (by omega)])); (try rfl))
      · skip
        refine RQ.seg 1 (pc' := 22) (L' := [some (.ref 0), some (.int (iI b)), some (.int (iI c))]) (st' := [.int (iI (-1))]) (g1 := (HW sc ar tx oc rl ou tl, q)) rfl ?_
        refine RQ.ret rfl rfl ?_
        refine ⟨?_, ?_⟩ <;> ((try unfold sJoined); (repeat (first | rw [if_pos (by omega)] | rw [if_neg (by omega)])); (try rfl))
    · skip
      refine RQ.call rfl rfl (x_isBrN_f (by omega) hX hF h2) ?_
      refine RQ.seg 2 (pc' := 22) (L' := [some (.ref 0), some (.int (iI b)), some (.int (iI c))]) (st' := [.int (iI (-1))]) (g1 := (HW sc ar tx oc rl ou tl, q)) rfl ?_
      refine RQ.ret rfl rfl ?_
      refine ⟨?_, ?_⟩ <;> ((try unfold sJoined); (repeat (first | rw [if_pos (by omega)] | rw [if_neg (by omega)])); (try rfl))
  · skip
    refine RQ.call rfl rfl (x_isBrN_f (by omega) hX hF h1) ?_
    refine RQ.seg 2 (pc' := 22) (L' := [some (.ref 0), some (.int (iI b)), some (.int (iI c))]) (st' := [.int (iI (-1))]) (g1 := (HW sc ar tx oc rl ou tl, q)) rfl ?_
    refine RQ.ret rfl rfl ?_
    refine ⟨?_, ?_⟩ <;> ((try unfold sJoined); (repeat (first | rw [if_pos (by omega)] | rw [if_neg (by omega)])); (try rfl))
