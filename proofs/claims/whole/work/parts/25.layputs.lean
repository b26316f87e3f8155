/-! the reference lays the puts, by wip/tools -/
theorem m_lp_w {K : PK} {d : Nat} {sc : Nat → Int} {ar : Nat → Int → Int} {tx oc : Nat} {rl : Nat → Option Nat} {ou : Nat → Int64} {tl : List PO} {q : Nat × Nat} {Q : Option Value → PG → Prop} {b p : Int} {nw nb : Int} {W B : Int → Int → Int} (hF : FrOK nw nb W B) (hM : FrM (sc 8024) (sc 8025) (ar 85) (ar 86) nw nb W B) (hb : 0 ≤ b ∧ b < nb) (hp : 0 ≤ p ∧ p < 6) {g : Int → Int} : ∀ (m : Nat) (w n : Int) (f : Int → Int) (hw : 0 ≤ w ∧ w + m = nw) (hl : n = (fl (mb nw W B b) (10 * p + w).toNat).length) (hf : LPb nw W B f b (fl (mb nw W B b) (10 * p + w).toNat)) (hk : ∀ (n' : Int) (f' : Int → Int), n' = (fl (mb nw W B b) (10 * p + nw).toNat).length → LPb nw W B f' b (fl (mb nw W B b) (10 * p + nw).toNat) → RQ K (d + 1) 11 false none cd191 82 [some (.ref 80), some (.int (iI b)), some (.int (iI n')), some (.int (iI p)), some (.int (iI nw))] [] (HW sc (usc (usc ar 94 f') 95 g) tx oc rl ou tl, q) Q), RQ K (d + 1) 11 false none cd191 23 [some (.ref 80), some (.int (iI b)), some (.int (iI n)), some (.int (iI p)), some (.int (iI w))] [] (HW sc (usc (usc ar 94 f) 95 g) tx oc rl ou tl, q) Q
  | 0, w, n, f, hw, hl, hf, hk => by
    have hn := hF.1
    have hm1 := hM.1
    have hm2 := hM.2.1
    refine RQ.seg 3 (pc' := 29) (L' := [some (.ref 80), some (.int (iI b)), some (.int (iI n)), some (.int (iI p)), some (.int (iI w))]) (st' := [.int (iI (sc 8024)), .int (iI w)]) (g1 := (HW sc (usc (usc ar 94 f) 95 g) tx oc rl ou tl, q)) rfl ?_
    refine RQ.if2 (a := w) (b := (sc 8024)) rfl rfl rfl rfl (by omega) (by omega) (fun _ => ?_) (fun (q : ¬ sc 8024 ≤ w) => absurd (show sc 8024 ≤ w from by omega) q)
    obtain rfl : w = nw := by omega
    exact hk n f hl hf
  | m + 1, w, n, f, hw, hl, hf, hk => by
    have hn := hF.1
    have hm1 := hM.1
    have hm2 := hM.2.1
    have h24 := pls_24 (W := W) (B := B) (b := b) hF.1.2.1 (n := (10 * p + w).toNat) (by omega)
    refine RQ.seg 3 (pc' := 29) (L' := [some (.ref 80), some (.int (iI b)), some (.int (iI n)), some (.int (iI p)), some (.int (iI w))]) (st' := [.int (iI (sc 8024)), .int (iI w)]) (g1 := (HW sc (usc (usc ar 94 f) 95 g) tx oc rl ou tl, q)) rfl ?_
    refine RQ.if2 (a := w) (b := (sc 8024)) rfl rfl rfl rfl (by omega) (by omega) (fun (q : sc 8024 ≤ w) => absurd q (show ¬ sc 8024 ≤ w from by omega)) (fun _ => ?_)
    refine RQ.seg 8 (pc' := 42) (L' := [some (.ref 80), some (.int (iI b)), some (.int (iI n)), some (.int (iI p)), some (.int (iI w))]) (st' := [.int (((iI 3) * (iI b)) + (iI 1)), .ref 86, .ref 80]) (g1 := (HW sc (usc (usc ar 94 f) 95 g) tx oc rl ou tl, q)) rfl ?_
    have hf1 := hF.2.2 b (by omega) (by omega)
    refine RQ.ialdv (z := (3 * b + 1)) (v := (B b 1)) rfl (by simp only [iI_add, iI_sub, iI_mul, iI_neg]) rfl (by omega) (by decide) (frm_b1 hM (by omega) (by omega)) ?_
    refine RQ.seg 2 (pc' := 46) (L' := [some (.ref 80), some (.int (iI b)), some (.int (iI n)), some (.int (iI p)), some (.int (iI w))]) (st' := [.int (iI w), .int (iI p), .int (iI (B b 1)), .ref 80]) (g1 := (HW sc (usc (usc ar 94 f) 95 g) tx oc rl ou tl, q)) rfl ?_
    rcases Decidable.em (rch W (B b 1) p w) with h2 | h2
    · skip
      refine RQ.call rfl rfl (m_rch_t hF hM (by omega) (by omega) (by omega) h2) ?_
      refine RQ.seg 13 (pc' := 72) (L' := [some (.ref 80), some (.int (iI b)), some (.int (iI n)), some (.int (iI p)), some (.int (iI w))]) (st' := [.int (((iI 10) * (iI p)) + (iI w)), .int (((iI 25) * (iI b)) + (iI n)), .ref 94]) (g1 := (HW sc (usc (usc ar 94 f) 95 g) tx oc rl ou tl, q)) rfl ?_
      refine RQ.iast (z := (25 * b + n)) (v := (10 * p + w)) (g1 := (HW sc (usc (usc ar 94 (usz f (25 * b + n) (10 * p + w))) 95 g) tx oc rl ou tl, q)) rfl (by simp only [iI_add, iI_sub, iI_mul, iI_neg]) (by simp only [iI_add, iI_sub, iI_mul, iI_neg]) rfl (by omega) (by decide) (HWa_94 (by funext j; unfold usc; cases hb : Nat.beq j 94 <;> first | rfl | (rw [Nat.eq_of_beq_eq_true hb]; rfl))) ?_
      refine RQ.seg 3 (pc' := 23) (L' := [some (.ref 80), some (.int (iI b)), some (.int ((iI n) + (iI 1))), some (.int (iI p)), some (.int ((iI w) + (iI 1)))]) (st' := []) (g1 := (HW sc (usc (usc ar 94 (usz f (25 * b + n) (10 * p + w))) 95 g) tx oc rl ou tl, q)) rfl ?_
      refine RQ.to (L' := [some (.ref 80), some (.int (iI b)), some (.int (iI (n + 1))), some (.int (iI p)), some (.int (iI (w + 1)))]) (st' := []) (by simp only [iI_add, iI_sub, iI_mul, iI_neg]) rfl ?_
      have e0 : (10 * p + (w + 1)).toNat = (10 * p + w).toNat + 1 := by omega
      have hm : mb nw W B b ((10 * p + w).toNat : Int) = true := by
        rw [Int.toNat_of_nonneg (by omega)]
        have e1 : (10 * p + w) / 10 = p := by omega
        have e2 : (10 * p + w) % 10 = w := by omega
        exact mb_t.mpr (Or.inr ⟨by omega, by omega, by omega, by rw [e1, e2]; exact h2⟩)
      have e3 : ((10 * p + w).toNat : Int) = 10 * p + w := by omega
      subst hl
      have e4 := LPb_app (v := 10 * p + w) hF.1.2.1 hf
      exact m_lp_w hF hM hb hp m (w + 1) _ _ (by omega) (by rw [e0, fl_t hm, List.length_append]; simp) (by rw [e0, fl_t hm, e3]; exact e4) hk
    · skip
      refine RQ.call rfl rfl (m_rch_f hF hM (by omega) (by omega) (by omega) h2) ?_
      refine RQ.seg 4 (pc' := 23) (L' := [some (.ref 80), some (.int (iI b)), some (.int (iI n)), some (.int (iI p)), some (.int ((iI w) + (iI 1)))]) (st' := []) (g1 := (HW sc (usc (usc ar 94 f) 95 g) tx oc rl ou tl, q)) rfl ?_
      refine RQ.to (L' := [some (.ref 80), some (.int (iI b)), some (.int (iI n)), some (.int (iI p)), some (.int (iI (w + 1)))]) (st' := []) (by simp only [iI_add, iI_sub, iI_mul, iI_neg]) rfl ?_
      have e0 : (10 * p + (w + 1)).toNat = (10 * p + w).toNat + 1 := by omega
      have hm : mb nw W B b ((10 * p + w).toNat : Int) = false := by
        rw [Int.toNat_of_nonneg (by omega)]
        have e1 : (10 * p + w) / 10 = p := by omega
        have e2 : (10 * p + w) % 10 = w := by omega
        exact mb_f.mpr (fun z => by rcases z with z | z; omega; exact h2 (by have := z.2.2.2; rw [e1, e2] at this; exact this))
      have e3 : ((10 * p + w).toNat : Int) = 10 * p + w := by omega
      subst hl
      skip
      exact m_lp_w hF hM hb hp m (w + 1) _ f (by omega) (by rw [e0, fl_f hm]) (by rw [e0, fl_f hm]; exact hf) hk
theorem m_lp_p {K : PK} {d : Nat} {sc : Nat → Int} {ar : Nat → Int → Int} {tx oc : Nat} {rl : Nat → Option Nat} {ou : Nat → Int64} {tl : List PO} {q : Nat × Nat} {Q : Option Value → PG → Prop} {b : Int} {nw nb : Int} {W B : Int → Int → Int} (hF : FrOK nw nb W B) (hM : FrM (sc 8024) (sc 8025) (ar 85) (ar 86) nw nb W B) (hb : 0 ≤ b ∧ b < nb) {g : Int → Int} : ∀ (m : Nat) (p n : Int) (f : Int → Int) (e : Option Value) (hp : 0 ≤ p ∧ p + m = 6) (hl : n = (fl (mb nw W B b) (10 * p).toNat).length) (hf : LPb nw W B f b (fl (mb nw W B b) (10 * p).toNat)) (hk : ∀ (n' : Int) (f' : Int → Int) (e : Option Value), n' = (fl (mb nw W B b) 60).length → LPb nw W B f' b (fl (mb nw W B b) 60) → RQ K (d + 1) 11 false none cd191 88 [some (.ref 80), some (.int (iI b)), some (.int (iI n')), some (.int (iI 6)), e] [] (HW sc (usc (usc ar 94 f') 95 g) tx oc rl ou tl, q) Q), RQ K (d + 1) 11 false none cd191 14 [some (.ref 80), some (.int (iI b)), some (.int (iI n)), some (.int (iI p)), e] [] (HW sc (usc (usc ar 94 f) 95 g) tx oc rl ou tl, q) Q
  | 0, p, n, f, e, hp, hl, hf, hk => by
    have hn := hF.1
    have hm1 := hM.1
    have hm2 := hM.2.1
    refine RQ.seg 2 (pc' := 17) (L' := [some (.ref 80), some (.int (iI b)), some (.int (iI n)), some (.int (iI p)), e]) (st' := [.int (iI 6), .int (iI p)]) (g1 := (HW sc (usc (usc ar 94 f) 95 g) tx oc rl ou tl, q)) rfl ?_
    refine RQ.if2 (a := p) (b := 6) rfl rfl rfl rfl (by omega) (by omega) (fun _ => ?_) (fun (q : ¬ 6 ≤ p) => absurd (show 6 ≤ p from by omega) q)
    obtain rfl : p = 6 := by omega
    exact hk n f e hl hf
  | m + 1, p, n, f, e, hp, hl, hf, hk => by
    have hn := hF.1
    have hm1 := hM.1
    have hm2 := hM.2.1
    refine RQ.seg 2 (pc' := 17) (L' := [some (.ref 80), some (.int (iI b)), some (.int (iI n)), some (.int (iI p)), e]) (st' := [.int (iI 6), .int (iI p)]) (g1 := (HW sc (usc (usc ar 94 f) 95 g) tx oc rl ou tl, q)) rfl ?_
    refine RQ.if2 (a := p) (b := 6) rfl rfl rfl rfl (by omega) (by omega) (fun (q : 6 ≤ p) => absurd q (show ¬ 6 ≤ p from by omega)) (fun _ => ?_)
    refine RQ.seg 2 (pc' := 23) (L' := [some (.ref 80), some (.int (iI b)), some (.int (iI n)), some (.int (iI p)), some (.int (iI 0))]) (st' := []) (g1 := (HW sc (usc (usc ar 94 f) 95 g) tx oc rl ou tl, q)) rfl ?_
    refine m_lp_w hF hM hb (by omega) nw.toNat 0 n f (by omega) (by rw [Int.add_zero]; exact hl) (by rw [Int.add_zero]; exact hf) (fun n' f' hl' hf' => ?_)
    refine RQ.seg 2 (pc' := 14) (L' := [some (.ref 80), some (.int (iI b)), some (.int (iI n')), some (.int ((iI p) + (iI 1))), some (.int (iI nw))]) (st' := []) (g1 := (HW sc (usc (usc ar 94 f') 95 g) tx oc rl ou tl, q)) rfl ?_
    refine RQ.to (L' := [some (.ref 80), some (.int (iI b)), some (.int (iI n')), some (.int (iI (p + 1))), some (.int (iI nw))]) (st' := []) (by simp only [iI_add, iI_sub, iI_mul, iI_neg]) rfl ?_
    have e0 : (10 * (p + 1)).toNat = (10 * p + nw).toNat + (10 - nw).toNat := by omega
    have e1 : fl (mb nw W B b) (10 * (p + 1)).toNat = fl (mb nw W B b) (10 * p + nw).toNat := by
      rw [e0]
      refine fl_gap _ (fun i h1 h2 => mb_f.mpr (fun z => ?_))
      rcases z with z | z <;> omega
    exact m_lp_p hF hM hb m (p + 1) n' f' _ (by omega) (by rw [e1]; exact hl') (by rw [e1]; exact hf') hk
theorem m_lp_b {K : PK} {d : Nat} {sc : Nat → Int} {ar : Nat → Int → Int} {tx oc : Nat} {rl : Nat → Option Nat} {ou : Nat → Int64} {tl : List PO} {q : Nat × Nat} {nw nb : Int} {W B : Int → Int → Int} (hF : FrOK nw nb W B) (hM : FrM (sc 8024) (sc 8025) (ar 85) (ar 86) nw nb W B) : ∀ (m : Nat) (b : Int) (f g : Int → Int) (e1 e2 e3 : Option Value) (hb : 0 ≤ b ∧ b + m = nb) (hf : PMx nw b W B f g), RQ K (d + 1) 11 false none cd191 2 [some (.ref 80), some (.int (iI b)), e1, e2, e3] [] (HW sc (usc (usc ar 94 f) 95 g) tx oc rl ou tl, q) (fun r g' => r = none ∧ ∃ f g, g' = (HW sc (usc (usc ar 94 f) 95 g) tx oc rl ou tl, q) ∧ PMx nw nb W B f g)
  | 0, b, f, g, e1, e2, e3, hb, hf => by
    have hn := hF.1
    have hm1 := hM.1
    have hm2 := hM.2.1
    refine RQ.seg 3 (pc' := 7) (L' := [some (.ref 80), some (.int (iI b)), e1, e2, e3]) (st' := [.int (iI (sc 8025)), .int (iI b)]) (g1 := (HW sc (usc (usc ar 94 f) 95 g) tx oc rl ou tl, q)) rfl ?_
    refine RQ.if2 (a := b) (b := (sc 8025)) rfl rfl rfl rfl (by omega) (by omega) (fun _ => ?_) (fun (q : ¬ sc 8025 ≤ b) => absurd (show sc 8025 ≤ b from by omega) q)
    refine RQ.ret rfl rfl ?_
    obtain rfl : b = nb := by omega
    exact ⟨rfl, f, g, rfl, hf⟩
  | m + 1, b, f, g, e1, e2, e3, hb, hf => by
    have hn := hF.1
    have hm1 := hM.1
    have hm2 := hM.2.1
    refine RQ.seg 3 (pc' := 7) (L' := [some (.ref 80), some (.int (iI b)), e1, e2, e3]) (st' := [.int (iI (sc 8025)), .int (iI b)]) (g1 := (HW sc (usc (usc ar 94 f) 95 g) tx oc rl ou tl, q)) rfl ?_
    refine RQ.if2 (a := b) (b := (sc 8025)) rfl rfl rfl rfl (by omega) (by omega) (fun (q : sc 8025 ≤ b) => absurd q (show ¬ sc 8025 ≤ b from by omega)) (fun _ => ?_)
    refine RQ.seg 4 (pc' := 14) (L' := [some (.ref 80), some (.int (iI b)), some (.int (iI 0)), some (.int (iI 0)), e3]) (st' := []) (g1 := (HW sc (usc (usc ar 94 f) 95 g) tx oc rl ou tl, q)) rfl ?_
    refine m_lp_p hF hM (by omega) 6 0 0 f e3 (by omega) rfl ⟨fun o h0 h1 => (hf o h0 h1).2, fun k h0 h1 => absurd h1 (by show ¬ k < ((0 : Nat) : Int); omega)⟩ (fun n' f' e hl' hf' => ?_)
    have h24 := pls_24 (W := W) (B := B) (b := b) hF.1.2.1 (n := 99) (by omega)
    have e0 : fl (mb nw W B b) 99 = fl (mb nw W B b) 60 := fl_gap (n := 60) 39 (fun i h1 h2 => mb_f.mpr (fun z => by rcases z with z | z <;> omega))
    rw [← e0] at hl' hf'
    refine RQ.seg 8 (pc' := 100) (L' := [some (.ref 80), some (.int (iI b)), some (.int (iI n')), some (.int (iI 6)), e]) (st' := [.int (iI 99), .int (((iI 25) * (iI b)) + (iI n')), .ref 94]) (g1 := (HW sc (usc (usc ar 94 f') 95 g) tx oc rl ou tl, q)) rfl ?_
    refine RQ.iast (z := (25 * b + n')) (v := 99) (g1 := (HW sc (usc (usc ar 94 (usz f' (25 * b + n') 99)) 95 g) tx oc rl ou tl, q)) rfl (by simp only [iI_add, iI_sub, iI_mul, iI_neg]) rfl rfl (by omega) (by decide) (HWa_94 (by funext j; unfold usc; cases hb : Nat.beq j 94 <;> first | rfl | (rw [Nat.eq_of_beq_eq_true hb]; rfl))) ?_
    refine RQ.seg 6 (pc' := 109) (L' := [some (.ref 80), some (.int (iI b)), some (.int (iI n')), some (.int (iI 6)), e]) (st' := [.int ((iI n') + (iI 1)), .int (iI b), .ref 95]) (g1 := (HW sc (usc (usc ar 94 (usz f' (25 * b + n') 99)) 95 g) tx oc rl ou tl, q)) rfl ?_
    refine RQ.iast (z := b) (v := (n' + 1)) (g1 := (HW sc (usc (usc ar 94 (usz f' (25 * b + n') 99)) 95 (usz g b (n' + 1))) tx oc rl ou tl, q)) rfl rfl (by simp only [iI_add, iI_sub, iI_mul, iI_neg]) rfl (by omega) (by decide) (HWa_95 (by funext j; unfold usc; cases hb : Nat.beq j 95 <;> first | rfl | (rw [Nat.eq_of_beq_eq_true hb]; rfl))) ?_
    refine RQ.seg 2 (pc' := 2) (L' := [some (.ref 80), some (.int ((iI b) + (iI 1))), some (.int (iI n')), some (.int (iI 6)), e]) (st' := []) (g1 := (HW sc (usc (usc ar 94 (usz f' (25 * b + n') 99)) 95 (usz g b (n' + 1))) tx oc rl ou tl, q)) rfl ?_
    refine RQ.to (L' := [some (.ref 80), some (.int (iI (b + 1))), some (.int (iI n')), some (.int (iI 6)), e]) (st' := []) (by simp only [iI_add, iI_sub, iI_mul, iI_neg]) rfl ?_
    subst hl'
    have e4 := LPb_app (v := 99) hF.1.2.1 hf'
    rw [← pls_eq] at e4
    refine m_lp_b hF hM m (b + 1) _ _ _ _ _ (by omega) (fun o h0 h1 => ?_)
    by_cases e5 : o = b
    · subst e5; exact ⟨by rw [usz_s, pls_eq, List.length_append]; simp, e4.2⟩
    · exact ⟨by rw [usz_n e5]; exact (hf o h0 (by omega)).1, e4.1 o h0 (by omega)⟩
theorem m_layPuts {K : PK} {d : Nat} {sc : Nat → Int} {ar : Nat → Int → Int} {tx oc : Nat} {rl : Nat → Option Nat} {ou : Nat → Int64} {tl : List PO} {q : Nat × Nat} {nw nb : Int} {W B : Int → Int → Int} (hF : FrOK nw nb W B) (hM : FrM (sc 8024) (sc 8025) (ar 85) (ar 86) nw nb W B) : CQ K (d + 2) 191 [.ref 80] (HW sc ar tx oc rl ou tl, q) (fun r g' => r = none ∧ ∃ f g, g' = (HW sc (usc (usc ar 94 f) 95 g) tx oc rl ou tl, q) ∧ PMx nw nb W B f g) := by
  have hn := hF.1
  have hm1 := hM.1
  have hm2 := hM.2.1
  refine CQ.of (own := 11) (n := 5) (ini := false) (rt := none) (cd := cd191) (by decide +kernel) rfl (by decide +kernel) rfl (Nat.le_of_ble_eq_true rfl) ?_
  refine RQ.seg 2 (pc' := 2) (L' := [some (.ref 80), some (.int (iI 0)), none, none, none]) (st' := []) (g1 := (HW sc ar tx oc rl ou tl, q)) rfl ?_
  exact m_lp_b hF hM nb.toNat 0 (ar 94) (ar 95) _ _ _ (by omega) (fun o h0 h1 => absurd h1 (by omega))
