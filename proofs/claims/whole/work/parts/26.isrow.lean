/-! a number as a row, both sides, by wip/tools -/
/-- the number v as the puts of the first n brigades -/
def rwb (nw : Int) (W B : Int → Int → Int) : Nat → Int → Bool
  | 0, v => decide (v = 0)
  | n + 1, v => mb nw W B n (v % 100) && rwb nw W B n (v / 100)
def rwp : Nat → Int → (Int → Int) → (Int → Int)
  | 0, _, f => f
  | n + 1, v, f => rwp n (v / 100) (usz f n (v % 100))
theorem m_isr_k {K : PK} {d : Nat} {sc : Nat → Int} {ar : Nat → Int → Int} {tx oc : Nat} {rl : Nat → Option Nat} {ou : Nat → Int64} {tl : List PO} {q : Nat × Nat} {Q : Option Value → PG → Prop} {row v b x : Int} {f : Int → Int} {nw nb : Int} {W B : Int → Int → Int} (hF : FrOK nw nb W B) (hM : FrM (sc 8024) (sc 8025) (ar 85) (ar 86) nw nb W B) (hP : PMx nw nb W B (ar 94) (ar 95)) (hb : 0 ≤ b ∧ b < nb) (hx : f b = x) (rx : 0 ≤ x ∧ x < 100) : ∀ (m : Nat) (k z : Int) (hk0 : 0 ≤ k ∧ k + m = ((pls nw W B b).length : Int)) (rz : 0 ≤ z ∧ z ≤ 1) (hz : z = 1 ↔ ∃ j : Int, (0 ≤ j ∧ j < k) ∧ lat (pls nw W B b) j = x) (hk : ∀ z : Int, (z = 1 ∧ may nw W B b x ∨ z = 0 ∧ ¬ may nw W B b x) → RQ K (d + 0) 11 false (some .boolean) cd194 97 [some (.ref 80), some (.int (iI row)), some (.int (iI v)), some (.int (iI b)), some (.int (iI z)), some (.int (iI ((pls nw W B b).length : Int)))] [] (HW sc (usc ar 96 f) tx oc rl ou tl, q) Q), RQ K (d + 0) 11 false (some .boolean) cd194 47 [some (.ref 80), some (.int (iI row)), some (.int (iI v)), some (.int (iI b)), some (.int (iI z)), some (.int (iI k))] [] (HW sc (usc ar 96 f) tx oc rl ou tl, q) Q
  | 0, k, z, hk0, rz, hz, hk => by
    have hn := hF.1
    have hm1 := hM.1
    have hm2 := hM.2.1
    have h25 := pls_25 (W := W) (B := B) (b := b) hF.1.2.1
    refine RQ.seg 4 (pc' := 54) (L' := [some (.ref 80), some (.int (iI row)), some (.int (iI v)), some (.int (iI b)), some (.int (iI z)), some (.int (iI k))]) (st' := [.int (iI b), .ref 95, .int (iI k)]) (g1 := (HW sc (usc ar 96 f) tx oc rl ou tl, q)) rfl ?_
    refine RQ.ialdv (z := b) (v := ((pls nw W B b).length : Int)) rfl rfl rfl (by omega) (by decide) (hP b (by omega) (by omega)).1 ?_
    refine RQ.if2 (a := k) (b := ((pls nw W B b).length : Int)) rfl rfl rfl rfl (by omega) (by omega) (fun _ => ?_) (fun (q : ¬ ((pls nw W B b).length : Int) ≤ k) => absurd (show ((pls nw W B b).length : Int) ≤ k from by omega) q)
    obtain rfl : k = ((pls nw W B b).length : Int) := by omega
    refine hk z ?_
    rcases (show z = 1 ∨ z = 0 by omega) with e | e
    · obtain ⟨j, h1, h2⟩ := hz.mp e
      exact Or.inl ⟨e, pls_mem.mp (h2 ▸ lat_mem h1)⟩
    · refine Or.inr ⟨e, fun q => ?_⟩
      obtain ⟨j, h1, h2⟩ := mem_lat (pls_mem.mpr q)
      have := hz.mpr ⟨j, h1, h2⟩
      omega
  | m + 1, k, z, hk0, rz, hz, hk => by
    have hn := hF.1
    have hm1 := hM.1
    have hm2 := hM.2.1
    have h25 := pls_25 (W := W) (B := B) (b := b) hF.1.2.1
    have hr : 0 ≤ lat (pls nw W B b) k ∧ lat (pls nw W B b) k < 100 := by have := pls_mem.mp (lat_mem (l := pls nw W B b) (k := k) (by omega)); rcases this with z | z <;> omega
    refine RQ.seg 4 (pc' := 54) (L' := [some (.ref 80), some (.int (iI row)), some (.int (iI v)), some (.int (iI b)), some (.int (iI z)), some (.int (iI k))]) (st' := [.int (iI b), .ref 95, .int (iI k)]) (g1 := (HW sc (usc ar 96 f) tx oc rl ou tl, q)) rfl ?_
    refine RQ.ialdv (z := b) (v := ((pls nw W B b).length : Int)) rfl rfl rfl (by omega) (by decide) (hP b (by omega) (by omega)).1 ?_
    refine RQ.if2 (a := k) (b := ((pls nw W B b).length : Int)) rfl rfl rfl rfl (by omega) (by omega) (fun (q : ((pls nw W B b).length : Int) ≤ k) => absurd q (show ¬ ((pls nw W B b).length : Int) ≤ k from by omega)) (fun _ => ?_)
    refine RQ.seg 1 (pc' := 60) (L' := [some (.ref 80), some (.int (iI row)), some (.int (iI v)), some (.int (iI b)), some (.int (iI z)), some (.int (iI k))]) (st' := [.int (iI z)]) (g1 := (HW sc (usc ar 96 f) tx oc rl ou tl, q)) rfl ?_
    refine RQ.if1 (a := z) rfl rfl rfl (by omega) (fun (h2 : z ≠ 0) => ?_) (fun (h2 : ¬ z ≠ 0) => ?_)
    · skip
      refine RQ.seg 5 (pc' := 47) (L' := [some (.ref 80), some (.int (iI row)), some (.int (iI v)), some (.int (iI b)), some (.int (iI 1)), some (.int ((iI k) + (iI 1)))]) (st' := []) (g1 := (HW sc (usc ar 96 f) tx oc rl ou tl, q)) rfl ?_
      refine RQ.to (L' := [some (.ref 80), some (.int (iI row)), some (.int (iI v)), some (.int (iI b)), some (.int (iI 1)), some (.int (iI (k + 1)))]) (st' := []) (by simp only [iI_add, iI_sub, iI_mul, iI_neg]) rfl ?_
      refine m_isr_k hF hM hP hb hx rx m (k + 1) 1 (by omega) (by omega) ⟨fun _ => ?_, fun _ => rfl⟩ hk
      obtain ⟨j, h1, h2⟩ := hz.mp (by omega)
      exact ⟨j, by omega, h2⟩
    · skip
      refine RQ.seg 7 (pc' := 74) (L' := [some (.ref 80), some (.int (iI row)), some (.int (iI v)), some (.int (iI b)), some (.int (iI z)), some (.int (iI k))]) (st' := [.int (((iI 25) * (iI b)) + (iI k)), .ref 94]) (g1 := (HW sc (usc ar 96 f) tx oc rl ou tl, q)) rfl ?_
      refine RQ.ialdv (z := (25 * b + k)) (v := (lat (pls nw W B b) k)) rfl (by simp only [iI_add, iI_sub, iI_mul, iI_neg]) rfl (by omega) (by decide) ((hP b (by omega) (by omega)).2 k (by omega) (by omega)) ?_
      refine RQ.seg 3 (pc' := 80) (L' := [some (.ref 80), some (.int (iI row)), some (.int (iI v)), some (.int (iI b)), some (.int (iI z)), some (.int (iI k))]) (st' := [.int (iI b), .ref 96, .int (iI (lat (pls nw W B b) k))]) (g1 := (HW sc (usc ar 96 f) tx oc rl ou tl, q)) rfl ?_
      refine RQ.ialdv (z := b) (v := x) rfl rfl rfl (by omega) (by decide) hx ?_
      refine RQ.if2 (a := (lat (pls nw W B b) k)) (b := x) rfl rfl rfl rfl (by omega) (by omega) (fun (h3 : lat (pls nw W B b) k ≠ x) => ?_) (fun (h3 : ¬ lat (pls nw W B b) k ≠ x) => ?_)
      · skip
        refine RQ.seg 4 (pc' := 47) (L' := [some (.ref 80), some (.int (iI row)), some (.int (iI v)), some (.int (iI b)), some (.int (iI 0)), some (.int ((iI k) + (iI 1)))]) (st' := []) (g1 := (HW sc (usc ar 96 f) tx oc rl ou tl, q)) rfl ?_
        refine RQ.to (L' := [some (.ref 80), some (.int (iI row)), some (.int (iI v)), some (.int (iI b)), some (.int (iI 0)), some (.int (iI (k + 1)))]) (st' := []) (by simp only [iI_add, iI_sub, iI_mul, iI_neg]) rfl ?_
        refine m_isr_k hF hM hP hb hx rx m (k + 1) 0 (by omega) (by omega) ⟨fun q => absurd q (by omega), fun q => ?_⟩ hk
        obtain ⟨j, h1, h2⟩ := q
        by_cases e : j = k
        · subst e; exact absurd h2 (by omega)
        · have := hz.mpr ⟨j, by omega, h2⟩; omega
      · skip
        refine RQ.seg 5 (pc' := 47) (L' := [some (.ref 80), some (.int (iI row)), some (.int (iI v)), some (.int (iI b)), some (.int (iI 1)), some (.int ((iI k) + (iI 1)))]) (st' := []) (g1 := (HW sc (usc ar 96 f) tx oc rl ou tl, q)) rfl ?_
        refine RQ.to (L' := [some (.ref 80), some (.int (iI row)), some (.int (iI v)), some (.int (iI b)), some (.int (iI 1)), some (.int (iI (k + 1)))]) (st' := []) (by simp only [iI_add, iI_sub, iI_mul, iI_neg]) rfl ?_
        exact m_isr_k hF hM hP hb hx rx m (k + 1) 1 (by omega) (by omega) ⟨fun _ => ⟨k, by omega, by omega⟩, fun _ => rfl⟩ hk
theorem m_isr_b {K : PK} {d : Nat} {sc : Nat → Int} {ar : Nat → Int → Int} {tx oc : Nat} {rl : Nat → Option Nat} {ou : Nat → Int64} {tl : List PO} {q : Nat × Nat} {Q : Option Value → PG → Prop} {row : Int} {nw nb : Int} {W B : Int → Int → Int} (hF : FrOK nw nb W B) (hM : FrM (sc 8024) (sc 8025) (ar 85) (ar 86) nw nb W B) (hP : PMx nw nb W B (ar 94) (ar 95)) : ∀ (m : Nat) (v b : Int) (f : Int → Int) (e1 e2 : Option Value) (hb : b = (m : Int) - 1 ∧ b < nb) (hv : 0 ≤ v ∧ v < 2147483648) (h1 : rwb nw W B m v = true → Q (some (.int (iI 1))) (HW sc (usc ar 96 (rwp m v f)) tx oc rl ou tl, q)) (h0 : rwb nw W B m v = false → ∀ f', Q (some (.int (iI 0))) (HW sc (usc ar 96 f') tx oc rl ou tl, q)), RQ K (d + 0) 11 false (some .boolean) cd194 22 [some (.ref 80), some (.int (iI row)), some (.int (iI v)), some (.int (iI b)), e1, e2] [] (HW sc (usc ar 96 f) tx oc rl ou tl, q) Q
  | 0, v, b, f, e1, e2, hb, hv, h1, h0 => by
    have hn := hF.1
    have hm1 := hM.1
    have hm2 := hM.2.1
    refine RQ.seg 1 (pc' := 23) (L' := [some (.ref 80), some (.int (iI row)), some (.int (iI v)), some (.int (iI b)), e1, e2]) (st' := [.int (iI b)]) (g1 := (HW sc (usc ar 96 f) tx oc rl ou tl, q)) rfl ?_
    refine RQ.if1 (a := b) rfl rfl rfl (by omega) (fun _ => ?_) (fun (q : ¬ b < 0) => absurd (show b < 0 from by omega) q)
    refine RQ.seg 1 (pc' := 111) (L' := [some (.ref 80), some (.int (iI row)), some (.int (iI v)), some (.int (iI b)), e1, e2]) (st' := [.int (iI v)]) (g1 := (HW sc (usc ar 96 f) tx oc rl ou tl, q)) rfl ?_
    refine RQ.if1 (a := v) rfl rfl rfl (by omega) (fun (h2 : v ≠ 0) => ?_) (fun (h2 : ¬ v ≠ 0) => ?_)
    · skip
      refine RQ.seg 1 (pc' := 119) (L' := [some (.ref 80), some (.int (iI row)), some (.int (iI v)), some (.int (iI b)), e1, e2]) (st' := [.int (iI 0)]) (g1 := (HW sc (usc ar 96 f) tx oc rl ou tl, q)) rfl ?_
      refine RQ.ret rfl rfl ?_
      exact h0 (decide_eq_false (by omega)) f
    · skip
      refine RQ.seg 2 (pc' := 119) (L' := [some (.ref 80), some (.int (iI row)), some (.int (iI v)), some (.int (iI b)), e1, e2]) (st' := [.int (iI 1)]) (g1 := (HW sc (usc ar 96 f) tx oc rl ou tl, q)) rfl ?_
      refine RQ.ret rfl rfl ?_
      exact h1 (decide_eq_true (by omega))
  | m + 1, v, b, f, e1, e2, hb, hv, h1, h0 => by
    have hn := hF.1
    have hm1 := hM.1
    have hm2 := hM.2.1
    refine RQ.seg 1 (pc' := 23) (L' := [some (.ref 80), some (.int (iI row)), some (.int (iI v)), some (.int (iI b)), e1, e2]) (st' := [.int (iI b)]) (g1 := (HW sc (usc ar 96 f) tx oc rl ou tl, q)) rfl ?_
    refine RQ.if1 (a := b) rfl rfl rfl (by omega) (fun (q : b < 0) => absurd q (show ¬ b < 0 from by omega)) (fun _ => ?_)
    refine RQ.seg 5 (pc' := 34) (L' := [some (.ref 80), some (.int (iI row)), some (.int (iI v)), some (.int (iI b)), e1, e2]) (st' := [.int (iI 100), .int (iI v), .int (iI b), .ref 96]) (g1 := (HW sc (usc ar 96 f) tx oc rl ou tl, q)) rfl ?_
    refine RQ.irem (a := v) (b := 100) rfl rfl rfl (by omega) (by omega) ?_
    refine RQ.iast (z := b) (v := (v % 100)) (g1 := (HW sc (usc ar 96 (usz f b (v % 100))) tx oc rl ou tl, q)) rfl rfl rfl rfl (by omega) (by decide) (HWa_96 (by funext j; unfold usc; cases hb : Nat.beq j 96 <;> first | rfl | (rw [Nat.eq_of_beq_eq_true hb]; rfl))) ?_
    refine RQ.seg 2 (pc' := 39) (L' := [some (.ref 80), some (.int (iI row)), some (.int (iI v)), some (.int (iI b)), e1, e2]) (st' := [.int (iI 100), .int (iI v)]) (g1 := (HW sc (usc ar 96 (usz f b (v % 100))) tx oc rl ou tl, q)) rfl ?_
    refine RQ.idiv (a := v) (b := 100) rfl rfl rfl (by omega) (by omega) ?_
    refine RQ.seg 5 (pc' := 47) (L' := [some (.ref 80), some (.int (iI row)), some (.int (iI (v / 100))), some (.int (iI b)), some (.int (iI 0)), some (.int (iI 0))]) (st' := []) (g1 := (HW sc (usc ar 96 (usz f b (v % 100))) tx oc rl ou tl, q)) rfl ?_
    obtain rfl : b = (m : Int) := by omega
    refine m_isr_k (x := v % 100) hF hM hP (by omega) (by rw [usz_s]) (by omega) (pls nw W B (m : Int)).length 0 0 (by omega) (by omega) ⟨fun q => absurd q (by omega), fun q => by obtain ⟨j, h1, h2⟩ := q; omega⟩ (fun z hz => ?_)
    have h25 := pls_25 (W := W) (B := B) (b := (m : Int)) hF.1.2.1
    rcases hz with ⟨rfl, hm⟩ | ⟨rfl, hm⟩
    · skip
      refine RQ.seg 4 (pc' := 22) (L' := [some (.ref 80), some (.int (iI row)), some (.int (iI (v / 100))), some (.int ((iI (m : Int)) + (iI (-1)))), some (.int (iI 1)), some (.int (iI ((pls nw W B (m : Int)).length : Int)))]) (st' := []) (g1 := (HW sc (usc ar 96 (usz f (m : Int) (v % 100))) tx oc rl ou tl, q)) rfl ?_
      refine RQ.to (L' := [some (.ref 80), some (.int (iI row)), some (.int (iI (v / 100))), some (.int (iI ((m : Int) + (-1)))), some (.int (iI 1)), some (.int (iI ((pls nw W B (m : Int)).length : Int)))]) (st' := []) (by simp only [iI_add, iI_sub, iI_mul, iI_neg]) rfl ?_
      exact m_isr_b hF hM hP m (v / 100) _ _ _ _ ⟨by omega, by omega⟩ (by omega) (fun z => h1 (by show (mb nw W B m (v % 100) && _) = true; rw [mb_t.mpr hm]; exact z)) (fun z => h0 (by show (mb nw W B m (v % 100) && _) = false; rw [mb_t.mpr hm]; exact z))
    · skip
      refine RQ.seg 3 (pc' := 103) (L' := [some (.ref 80), some (.int (iI row)), some (.int (iI (v / 100))), some (.int (iI (m : Int))), some (.int (iI 0)), some (.int (iI ((pls nw W B (m : Int)).length : Int)))]) (st' := [.int (iI 0)]) (g1 := (HW sc (usc ar 96 (usz f (m : Int) (v % 100))) tx oc rl ou tl, q)) rfl ?_
      refine RQ.ret rfl rfl ?_
      exact h0 (by show (mb nw W B m (v % 100) && _) = false; rw [mb_f.mpr hm]; rfl) _
theorem m_isRow {K : PK} {d : Nat} {sc : Nat → Int} {ar : Nat → Int → Int} {tx oc : Nat} {rl : Nat → Option Nat} {ou : Nat → Int64} {tl : List PO} {q : Nat × Nat} {row : Int} {nw nb : Int} {W B : Int → Int → Int} (hF : FrOK nw nb W B) (hM : FrM (sc 8024) (sc 8025) (ar 85) (ar 86) nw nb W B) (hP : PMx nw nb W B (ar 94) (ar 95)) (rrow : -2147483648 ≤ row ∧ row < 2147483648) : CQ K (d + 1) 194 [.ref 80, .int (iI row)] (HW sc ar tx oc rl ou tl, q) (fun r g' => ((0 < nb ∧ 0 ≤ row ∧ rwb nw W B nb.toNat row = true) ∧ r = some (.int (iI 1)) ∧ g' = (HW sc (usc ar 96 (rwp nb.toNat row (ar 96))) tx oc rl ou tl, q)) ∨ (¬ (0 < nb ∧ 0 ≤ row ∧ rwb nw W B nb.toNat row = true) ∧ r = some (.int (iI 0)) ∧ ∃ f, g' = (HW sc (usc ar 96 f) tx oc rl ou tl, q))) := by
  have hn := hF.1
  have hm1 := hM.1
  have hm2 := hM.2.1
  refine CQ.of (own := 11) (n := 6) (ini := false) (rt := (some .boolean)) (cd := cd194) (by decide +kernel) rfl (by decide +kernel) rfl (Nat.le_of_ble_eq_true rfl) ?_
  refine RQ.seg 3 (pc' := 3) (L' := [some (.ref 80), some (.int (iI row)), some (.int (iI row)), none, none, none]) (st' := [.int (iI row)]) (g1 := (HW sc ar tx oc rl ou tl, q)) rfl ?_
  refine RQ.if1 (a := row) rfl rfl rfl (by omega) (fun (h1 : row < 0) => ?_) (fun (h1 : ¬ row < 0) => ?_)
  · skip
    refine RQ.seg 1 (pc' := 14) (L' := [some (.ref 80), some (.int (iI row)), some (.int (iI row)), none, none, none]) (st' := [.int (iI 0)]) (g1 := (HW sc ar tx oc rl ou tl, q)) rfl ?_
    refine RQ.ret rfl rfl ?_
    exact Or.inr ⟨by omega, rfl, ar 96, rfl⟩
  · skip
    refine RQ.seg 2 (pc' := 10) (L' := [some (.ref 80), some (.int (iI row)), some (.int (iI row)), none, none, none]) (st' := [.int (iI (sc 8025))]) (g1 := (HW sc ar tx oc rl ou tl, q)) rfl ?_
    refine RQ.if1 (a := (sc 8025)) rfl rfl rfl (by omega) (fun (h2 : sc 8025 ≠ 0) => ?_) (fun (h2 : ¬ sc 8025 ≠ 0) => ?_)
    · skip
      refine RQ.seg 5 (pc' := 22) (L' := [some (.ref 80), some (.int (iI row)), some (.int (iI row)), some (.int ((iI (sc 8025)) - (iI 1))), none, none]) (st' := []) (g1 := (HW sc ar tx oc rl ou tl, q)) rfl ?_
      refine RQ.to (L' := [some (.ref 80), some (.int (iI row)), some (.int (iI row)), some (.int (iI (sc 8025 - 1))), none, none]) (st' := []) (by simp only [iI_add, iI_sub, iI_mul, iI_neg]) rfl ?_
      refine m_isr_b hF hM hP nb.toNat row _ (ar 96) _ _ ⟨by omega, by omega⟩ (by omega) (fun z => Or.inl ⟨⟨by omega, by omega, z⟩, rfl, rfl⟩) (fun z f => Or.inr ⟨fun y => ?_, rfl, f, rfl⟩)
      rw [y.2.2] at z; cases z
    · skip
      refine RQ.seg 1 (pc' := 14) (L' := [some (.ref 80), some (.int (iI row)), some (.int (iI row)), none, none, none]) (st' := [.int (iI 0)]) (g1 := (HW sc ar tx oc rl ou tl, q)) rfl ?_
      refine RQ.ret rfl rfl ?_
      exact Or.inr ⟨by omega, rfl, ar 96, rfl⟩
theorem x_spl_b {K : PK} {d : Nat} {sc : Nat → Int} {ar : Nat → Int → Int} {tx oc : Nat} {rl : Nat → Option Nat} {ou : Nat → Int64} {tl : List PO} {q : Nat × Nat} {Q : Option Value → PG → Prop} {row : Int} {nw nb : Int} {W B : Int → Int → Int} (hF : FrOK nw nb W B) (hX : FrX (sc 303) (sc 304) (ar 5) (ar 6) (ar 7) (ar 8) (ar 10) (ar 11) (ar 12) nw nb W B) : ∀ (m : Nat) (v b : Int) (f : Int → Int) (hb : b = (m : Int) - 1 ∧ b < nb) (hv : 0 ≤ v ∧ v < 2147483648) (h1 : rwb nw W B m v = true → Q (some (.int (iI 1))) (HW sc (usc ar 78 (rwp m v f)) tx oc rl ou tl, q)) (h0 : rwb nw W B m v = false → ∀ f', Q (some (.int (iI 0))) (HW sc (usc ar 78 f') tx oc rl ou tl, q)), RQ K (d + 2) 10 false (some .boolean) cd141 28 [some (.ref 0), some (.int (iI row)), some (.int (iI v)), some (.int (iI b))] [] (HW sc (usc ar 78 f) tx oc rl ou tl, q) Q
  | 0, v, b, f, hb, hv, h1, h0 => by
    have hn := hF.1
    have hm1 := hX.1
    have hm2 := hX.2.1
    refine RQ.seg 1 (pc' := 29) (L' := [some (.ref 0), some (.int (iI row)), some (.int (iI v)), some (.int (iI b))]) (st' := [.int (iI b)]) (g1 := (HW sc (usc ar 78 f) tx oc rl ou tl, q)) rfl ?_
    refine RQ.if1 (a := b) rfl rfl rfl (by omega) (fun _ => ?_) (fun (q : ¬ b < 0) => absurd (show b < 0 from by omega) q)
    refine RQ.seg 1 (pc' := 73) (L' := [some (.ref 0), some (.int (iI row)), some (.int (iI v)), some (.int (iI b))]) (st' := [.int (iI v)]) (g1 := (HW sc (usc ar 78 f) tx oc rl ou tl, q)) rfl ?_
    refine RQ.if1 (a := v) rfl rfl rfl (by omega) (fun (h2 : v ≠ 0) => ?_) (fun (h2 : ¬ v ≠ 0) => ?_)
    · skip
      refine RQ.seg 1 (pc' := 81) (L' := [some (.ref 0), some (.int (iI row)), some (.int (iI v)), some (.int (iI b))]) (st' := [.int (iI 0)]) (g1 := (HW sc (usc ar 78 f) tx oc rl ou tl, q)) rfl ?_
      refine RQ.ret rfl rfl ?_
      exact h0 (decide_eq_false (by omega)) f
    · skip
      refine RQ.seg 2 (pc' := 81) (L' := [some (.ref 0), some (.int (iI row)), some (.int (iI v)), some (.int (iI b))]) (st' := [.int (iI 1)]) (g1 := (HW sc (usc ar 78 f) tx oc rl ou tl, q)) rfl ?_
      refine RQ.ret rfl rfl ?_
      exact h1 (decide_eq_true (by omega))
  | m + 1, v, b, f, hb, hv, h1, h0 => by
    have hn := hF.1
    have hm1 := hX.1
    have hm2 := hX.2.1
    obtain rfl : b = (m : Int) := by omega
    refine RQ.seg 1 (pc' := 29) (L' := [some (.ref 0), some (.int (iI row)), some (.int (iI v)), some (.int (iI (m : Int)))]) (st' := [.int (iI (m : Int))]) (g1 := (HW sc (usc ar 78 f) tx oc rl ou tl, q)) rfl ?_
    refine RQ.if1 (a := (m : Int)) rfl rfl rfl (by omega) (fun (q : (m : Int) < 0) => absurd q (show ¬ (m : Int) < 0 from by omega)) (fun _ => ?_)
    refine RQ.seg 5 (pc' := 40) (L' := [some (.ref 0), some (.int (iI row)), some (.int (iI v)), some (.int (iI (m : Int)))]) (st' := [.int (iI 100), .int (iI v), .int (iI (m : Int)), .ref 78]) (g1 := (HW sc (usc ar 78 f) tx oc rl ou tl, q)) rfl ?_
    refine RQ.irem (a := v) (b := 100) rfl rfl rfl (by omega) (by omega) ?_
    refine RQ.iast (z := (m : Int)) (v := (v % 100)) (g1 := (HW sc (usc ar 78 (usz f (m : Int) (v % 100))) tx oc rl ou tl, q)) rfl rfl rfl rfl (by omega) (by decide) (HWa_78 (by funext j; unfold usc; cases hb : Nat.beq j 78 <;> first | rfl | (rw [Nat.eq_of_beq_eq_true hb]; rfl))) ?_
    refine RQ.seg 2 (pc' := 45) (L' := [some (.ref 0), some (.int (iI row)), some (.int (iI v)), some (.int (iI (m : Int)))]) (st' := [.int (iI 100), .int (iI v)]) (g1 := (HW sc (usc ar 78 (usz f (m : Int) (v % 100))) tx oc rl ou tl, q)) rfl ?_
    refine RQ.idiv (a := v) (b := 100) rfl rfl rfl (by omega) (by omega) ?_
    refine RQ.seg 7 (pc' := 57) (L' := [some (.ref 0), some (.int (iI row)), some (.int (iI (v / 100))), some (.int (iI (m : Int)))]) (st' := [.int (iI (m : Int)), .ref 78, .int (iI (m : Int)), .ref 3]) (g1 := (HW sc (usc ar 78 (usz f (m : Int) (v % 100))) tx oc rl ou tl, q)) rfl ?_
    refine RQ.ialdv (z := (m : Int)) (v := (v % 100)) rfl rfl rfl (by omega) (by decide) (show (usz f (m : Int) (v % 100)) (m : Int) = v % 100 by rw [usz_s]) ?_
    rcases Decidable.em (may nw W B (m : Int) (v % 100)) with h2 | h2
    · skip
      refine RQ.call rfl rfl (x_may_t hF hX (by omega) (by omega) h2) ?_
      refine RQ.seg 3 (pc' := 28) (L' := [some (.ref 0), some (.int (iI row)), some (.int (iI (v / 100))), some (.int ((iI (m : Int)) + (iI (-1))))]) (st' := []) (g1 := (HW sc (usc ar 78 (usz f (m : Int) (v % 100))) tx oc rl ou tl, q)) rfl ?_
      refine RQ.to (L' := [some (.ref 0), some (.int (iI row)), some (.int (iI (v / 100))), some (.int (iI ((m : Int) + (-1))))]) (st' := []) (by simp only [iI_add, iI_sub, iI_mul, iI_neg]) rfl ?_
      exact x_spl_b hF hX m (v / 100) _ _ ⟨by omega, by omega⟩ (by omega) (fun z => h1 (by show (mb nw W B m (v % 100) && _) = true; rw [mb_t.mpr h2]; exact z)) (fun z => h0 (by show (mb nw W B m (v % 100) && _) = false; rw [mb_t.mpr h2]; exact z))
    · skip
      refine RQ.call rfl rfl (x_may_f hF hX (by omega) (by omega) h2) ?_
      refine RQ.seg 2 (pc' := 65) (L' := [some (.ref 0), some (.int (iI row)), some (.int (iI (v / 100))), some (.int (iI (m : Int)))]) (st' := [.int (iI 0)]) (g1 := (HW sc (usc ar 78 (usz f (m : Int) (v % 100))) tx oc rl ou tl, q)) rfl ?_
      refine RQ.ret rfl rfl ?_
      exact h0 (by show (mb nw W B m (v % 100) && _) = false; rw [mb_f.mpr h2]; rfl) _
theorem x_splitRow {K : PK} {d : Nat} {sc : Nat → Int} {ar : Nat → Int → Int} {tx oc : Nat} {rl : Nat → Option Nat} {ou : Nat → Int64} {tl : List PO} {q : Nat × Nat} {row : Int} {nw nb : Int} {W B : Int → Int → Int} (hF : FrOK nw nb W B) (hX : FrX (sc 303) (sc 304) (ar 5) (ar 6) (ar 7) (ar 8) (ar 10) (ar 11) (ar 12) nw nb W B) (rrow : -2147483648 ≤ row ∧ row < 2147483648) : CQ K (d + 3) 141 [.ref 0, .int (iI row)] (HW sc ar tx oc rl ou tl, q) (fun r g' => ((0 < nb ∧ 0 ≤ row ∧ rwb nw W B nb.toNat row = true) ∧ r = some (.int (iI 1)) ∧ g' = (HW sc (usc ar 78 (rwp nb.toNat row (ar 78))) tx oc rl ou tl, q)) ∨ (¬ (0 < nb ∧ 0 ≤ row ∧ rwb nw W B nb.toNat row = true) ∧ r = some (.int (iI 0)) ∧ ∃ f, g' = (HW sc (usc ar 78 f) tx oc rl ou tl, q))) := by
  have hn := hF.1
  have hm1 := hX.1
  have hm2 := hX.2.1
  refine CQ.of (own := 10) (n := 4) (ini := false) (rt := (some .boolean)) (cd := cd141) (by decide +kernel) rfl (by decide +kernel) rfl (Nat.le_of_ble_eq_true rfl) ?_
  refine RQ.seg 2 (pc' := 4) (L' := [some (.ref 0), some (.int (iI row)), none, none]) (st' := [.ref 3]) (g1 := (HW sc ar tx oc rl ou tl, q)) rfl ?_
  rcases Decidable.em (0 < nb) with h1 | h1
  · skip
    refine RQ.call rfl rfl (x_standsN_t hX hF h1) ?_
    refine RQ.seg 2 (pc' := 11) (L' := [some (.ref 0), some (.int (iI row)), none, none]) (st' := [.int (iI row)]) (g1 := (HW sc ar tx oc rl ou tl, q)) rfl ?_
    refine RQ.if1 (a := row) rfl rfl rfl (by omega) (fun (h2 : 0 ≤ row) => ?_) (fun (h2 : ¬ 0 ≤ row) => ?_)
    · skip
      refine RQ.seg 8 (pc' := 28) (L' := [some (.ref 0), some (.int (iI row)), some (.int (iI row)), some (.int ((iI (sc 304)) - (iI 1)))]) (st' := []) (g1 := (HW sc ar tx oc rl ou tl, q)) rfl ?_
      refine RQ.to (L' := [some (.ref 0), some (.int (iI row)), some (.int (iI row)), some (.int (iI (sc 304 - 1)))]) (st' := []) (by simp only [iI_add, iI_sub, iI_mul, iI_neg]) rfl ?_
      refine x_spl_b hF hX nb.toNat row _ (ar 78)  ⟨by omega, by omega⟩ (by omega) (fun z => Or.inl ⟨⟨by omega, by omega, z⟩, rfl, rfl⟩) (fun z f => Or.inr ⟨fun y => ?_, rfl, f, rfl⟩)
      rw [y.2.2] at z; cases z
    · skip
      refine RQ.seg 1 (pc' := 15) (L' := [some (.ref 0), some (.int (iI row)), none, none]) (st' := [.int (iI 0)]) (g1 := (HW sc ar tx oc rl ou tl, q)) rfl ?_
      refine RQ.ret rfl rfl ?_
      exact Or.inr ⟨by omega, rfl, ar 78, rfl⟩
  · skip
    refine RQ.call rfl rfl (x_standsN_f hX hF h1) ?_
    refine RQ.seg 2 (pc' := 15) (L' := [some (.ref 0), some (.int (iI row)), none, none]) (st' := [.int (iI 0)]) (g1 := (HW sc ar tx oc rl ou tl, q)) rfl ?_
    refine RQ.ret rfl rfl ?_
    exact Or.inr ⟨by omega, rfl, ar 78, rfl⟩
