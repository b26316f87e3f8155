/-! rows of the reference, by wip/tools -/
/-! rows of the reference -/
def LyD (nw nb : Int) (W B : Int → Int → Int) (law : Int → Int) (T : Int) (ar : Nat → Int → Int) : Prop := ∀ i, 0 ≤ i → i < T → ar 108 i = rsv nw nb W B i ∧ ar 109 i = mkb nb B (PI nw nb W B i) ∧ ar 110 i = xcn nw nb W B i nb.toNat ∧ ∀ b, 0 ≤ b → b < nb → ar 107 (3 * i + b) = rgn nw nb W B law i b
def LyR (nw nb : Int) (W B : Int → Int → Int) (law : Int → Int) (sc : Nat → Int) (ar : Nat → Int → Int) : Prop := sc 8052 = t3 (mny nw nb W B) ∧ LyD nw nb W B law (t3 (mny nw nb W B)) ar
theorem PI_t {nw nb : Int} {W B : Int → Int → Int} {i b : Int} (h : b < nb) : PI nw nb W B i b = lat (pls nw W B b) (x3 (mny nw nb W B) i b) := by unfold PI; rw [plx_t h]
theorem xcn_8 {nw nb : Int} {W B : Int → Int → Int} {i : Int} {n : Nat} (h : n ≤ 3) : 0 ≤ xcn nw nb W B i n ∧ xcn nw nb W B i n < 8 := by
  have h1 := xcn_r (nw := nw) (nb := nb) (W := W) (B := B) (i := i) n
  rcases (show n = 0 ∨ n = 1 ∨ n = 2 ∨ n = 3 by omega) with rfl | rfl | rfl | rfl <;> omega
theorem rsn_all {nw nb : Int} {W B : Int → Int → Int} {law : Int → Int} {i : Int} : ∀ (n : Nat), rsn nw nb W B law i n = true → ∀ b : Nat, b < n → rkn nw nb W B law i b (mny nw nb W B b).toNat = true
  | 0, _, b, hb => absurd hb (by omega)
  | n + 1, h, b, hb => by
    rw [rsn, Bool.and_eq_true] at h
    by_cases e : b = n
    · subst e; exact h.2
    · exact rsn_all n h.1 b (by omega)
theorem rsf_0 {nw nb : Int} {W B : Int → Int → Int} {law : Int → Int} {i : Int} {b k : Nat} (hb : (b : Int) < nb) (hk : (k : Int) < mny nw nb W B b) (h : ¬ rgn nw nb W B law (nbr nw nb W B i b k) b ≤ rgn nw nb W B law i b) : rsf nw nb W B law i = 0 := by
  unfold rsf
  refine if_neg (fun z => h ?_)
  have h1 := rsn_all nb.toNat z b (by omega)
  rw [rkn_iff] at h1
  exact h1 k (by omega) (by omega)
theorem m_stride0 {K : PK} {d : Nat} {sc : Nat → Int} {ar : Nat → Int → Int} {tx oc : Nat} {rl : Nat → Option Nat} {ou : Nat → Int64} {tl : List PO} {q : Nat × Nat} {nw nb : Int} {W B : Int → Int → Int} (hF : FrOK nw nb W B) (hM : FrM (sc 8024) (sc 8025) (ar 85) (ar 86) nw nb W B) (hP : PMx nw nb W B (ar 94) (ar 95)) (hb : 0 < nb) : CallR K (d + 1) 203 [.ref 80, .int (iI 0)] (HW sc ar tx oc rl ou tl, q) (some (.int (iI (s3 (mny nw nb W B) 0)))) (HW sc ar tx oc rl ou tl, q) := by
  apply CQ.x
  have hn := hF.1
  have hm1 := hM.1
  have hm2 := hM.2.1
  refine CQ.of (own := 11) (n := 4) (ini := false) (rt := (some .int)) (cd := cd203) (by decide +kernel) rfl (by decide +kernel) rfl (Nat.le_of_ble_eq_true rfl) ?_
  refine RQ.seg 9 (pc' := 11) (L' := [some (.ref 80), some (.int (iI 0)), some (.int (iI 1)), some (.int (iI 1))]) (st' := [.int (iI (sc 8025)), .int (iI 1)]) (g1 := (HW sc ar tx oc rl ou tl, q)) rfl ?_
  refine RQ.if2 (a := 1) (b := (sc 8025)) rfl rfl rfl rfl (by omega) (by omega) (fun (h1 : sc 8025 ≤ 1) => ?_) (fun (h1 : ¬ sc 8025 ≤ 1) => ?_)
  · skip
    refine RQ.seg 1 (pc' := 30) (L' := [some (.ref 80), some (.int (iI 0)), some (.int (iI 1)), some (.int (iI 1))]) (st' := [.int (iI 1)]) (g1 := (HW sc ar tx oc rl ou tl, q)) rfl ?_
    refine RQ.ret rfl rfl ?_
    refine ⟨?_, rfl⟩
    rw [show s3 (mny nw nb W B) 0 = 1 by rw [s3_0]; first | rfl | (rw [mny_f (b := 2) (by omega)]; done) | (rw [Int.one_mul]; done) | (rw [mny_f (b := 2) (by omega), Int.mul_one, Int.one_mul]; done) | (rw [mny_f (b := 1) (by omega), mny_f (b := 2) (by omega)]; rfl)]
  · skip
    refine RQ.seg 4 (pc' := 20) (L' := [some (.ref 80), some (.int (iI 0)), some (.int (iI 1)), some (.int (iI 1))]) (st' := [.int (iI 1), .ref 95, .int (iI 1)]) (g1 := (HW sc ar tx oc rl ou tl, q)) rfl ?_
    refine RQ.ialdv (z := 1) (v := (mny nw nb W B 1)) rfl rfl rfl (by omega) (by decide) ((hP 1 (by omega) (by omega)).1.trans (mny_t (by omega)).symm) ?_
    refine RQ.seg 7 (pc' := 11) (L' := [some (.ref 80), some (.int (iI 0)), some (.int ((iI 1) * (iI (mny nw nb W B 1)))), some (.int (iI 2))]) (st' := [.int (iI (sc 8025)), .int (iI 2)]) (g1 := (HW sc ar tx oc rl ou tl, q)) rfl ?_
    refine RQ.if2 (a := 2) (b := (sc 8025)) rfl rfl rfl rfl (by omega) (by omega) (fun (h2 : sc 8025 ≤ 2) => ?_) (fun (h2 : ¬ sc 8025 ≤ 2) => ?_)
    · skip
      refine RQ.seg 1 (pc' := 30) (L' := [some (.ref 80), some (.int (iI 0)), some (.int ((iI 1) * (iI (mny nw nb W B 1)))), some (.int (iI 2))]) (st' := [.int ((iI 1) * (iI (mny nw nb W B 1)))]) (g1 := (HW sc ar tx oc rl ou tl, q)) rfl ?_
      refine RQ.to (L' := [some (.ref 80), some (.int (iI 0)), some (.int (iI (1 * (mny nw nb W B 1)))), some (.int (iI 2))]) (st' := [.int (iI (1 * (mny nw nb W B 1)))]) (by simp only [iI_add, iI_sub, iI_mul, iI_neg]) (by simp only [iI_add, iI_sub, iI_mul, iI_neg]) ?_
      refine RQ.ret rfl rfl ?_
      refine ⟨?_, rfl⟩
      rw [show s3 (mny nw nb W B) 0 = 1 * (mny nw nb W B 1) by rw [s3_0]; first | rfl | (rw [mny_f (b := 2) (by omega)]; done) | (rw [Int.one_mul]; done) | (rw [mny_f (b := 2) (by omega), Int.mul_one, Int.one_mul]; done) | (rw [mny_f (b := 1) (by omega), mny_f (b := 2) (by omega)]; rfl)]
    · skip
      refine RQ.seg 4 (pc' := 20) (L' := [some (.ref 80), some (.int (iI 0)), some (.int ((iI 1) * (iI (mny nw nb W B 1)))), some (.int (iI 2))]) (st' := [.int (iI 2), .ref 95, .int ((iI 1) * (iI (mny nw nb W B 1)))]) (g1 := (HW sc ar tx oc rl ou tl, q)) rfl ?_
      refine RQ.ialdv (z := 2) (v := (mny nw nb W B 2)) rfl rfl rfl (by omega) (by decide) ((hP 2 (by omega) (by omega)).1.trans (mny_t (by omega)).symm) ?_
      refine RQ.seg 7 (pc' := 11) (L' := [some (.ref 80), some (.int (iI 0)), some (.int (((iI 1) * (iI (mny nw nb W B 1))) * (iI (mny nw nb W B 2)))), some (.int (iI 3))]) (st' := [.int (iI (sc 8025)), .int (iI 3)]) (g1 := (HW sc ar tx oc rl ou tl, q)) rfl ?_
      refine RQ.if2 (a := 3) (b := (sc 8025)) rfl rfl rfl rfl (by omega) (by omega) (fun _ => ?_) (fun (q : ¬ sc 8025 ≤ 3) => absurd (show sc 8025 ≤ 3 from by omega) q)
      refine RQ.seg 1 (pc' := 30) (L' := [some (.ref 80), some (.int (iI 0)), some (.int (((iI 1) * (iI (mny nw nb W B 1))) * (iI (mny nw nb W B 2)))), some (.int (iI 3))]) (st' := [.int (((iI 1) * (iI (mny nw nb W B 1))) * (iI (mny nw nb W B 2)))]) (g1 := (HW sc ar tx oc rl ou tl, q)) rfl ?_
      refine RQ.to (L' := [some (.ref 80), some (.int (iI 0)), some (.int (iI ((1 * (mny nw nb W B 1)) * (mny nw nb W B 2)))), some (.int (iI 3))]) (st' := [.int (iI ((1 * (mny nw nb W B 1)) * (mny nw nb W B 2)))]) (by simp only [iI_add, iI_sub, iI_mul, iI_neg]) (by simp only [iI_add, iI_sub, iI_mul, iI_neg]) ?_
      refine RQ.ret rfl rfl ?_
      refine ⟨?_, rfl⟩
      rw [show s3 (mny nw nb W B) 0 = (1 * (mny nw nb W B 1)) * (mny nw nb W B 2) by rw [s3_0]; first | rfl | (rw [mny_f (b := 2) (by omega)]; done) | (rw [Int.one_mul]; done) | (rw [mny_f (b := 2) (by omega), Int.mul_one, Int.one_mul]; done) | (rw [mny_f (b := 1) (by omega), mny_f (b := 2) (by omega)]; rfl)]
theorem m_stride1 {K : PK} {d : Nat} {sc : Nat → Int} {ar : Nat → Int → Int} {tx oc : Nat} {rl : Nat → Option Nat} {ou : Nat → Int64} {tl : List PO} {q : Nat × Nat} {nw nb : Int} {W B : Int → Int → Int} (hF : FrOK nw nb W B) (hM : FrM (sc 8024) (sc 8025) (ar 85) (ar 86) nw nb W B) (hP : PMx nw nb W B (ar 94) (ar 95)) (hb : 1 < nb) : CallR K (d + 1) 203 [.ref 80, .int (iI 1)] (HW sc ar tx oc rl ou tl, q) (some (.int (iI (s3 (mny nw nb W B) 1)))) (HW sc ar tx oc rl ou tl, q) := by
  apply CQ.x
  have hn := hF.1
  have hm1 := hM.1
  have hm2 := hM.2.1
  refine CQ.of (own := 11) (n := 4) (ini := false) (rt := (some .int)) (cd := cd203) (by decide +kernel) rfl (by decide +kernel) rfl (Nat.le_of_ble_eq_true rfl) ?_
  refine RQ.seg 9 (pc' := 11) (L' := [some (.ref 80), some (.int (iI 1)), some (.int (iI 1)), some (.int (iI 2))]) (st' := [.int (iI (sc 8025)), .int (iI 2)]) (g1 := (HW sc ar tx oc rl ou tl, q)) rfl ?_
  refine RQ.if2 (a := 2) (b := (sc 8025)) rfl rfl rfl rfl (by omega) (by omega) (fun (h1 : sc 8025 ≤ 2) => ?_) (fun (h1 : ¬ sc 8025 ≤ 2) => ?_)
  · skip
    refine RQ.seg 1 (pc' := 30) (L' := [some (.ref 80), some (.int (iI 1)), some (.int (iI 1)), some (.int (iI 2))]) (st' := [.int (iI 1)]) (g1 := (HW sc ar tx oc rl ou tl, q)) rfl ?_
    refine RQ.ret rfl rfl ?_
    refine ⟨?_, rfl⟩
    rw [show s3 (mny nw nb W B) 1 = 1 by rw [s3_1]; first | rfl | (rw [mny_f (b := 2) (by omega)]; done) | (rw [Int.one_mul]; done) | (rw [mny_f (b := 2) (by omega), Int.mul_one, Int.one_mul]; done) | (rw [mny_f (b := 1) (by omega), mny_f (b := 2) (by omega)]; rfl)]
  · skip
    refine RQ.seg 4 (pc' := 20) (L' := [some (.ref 80), some (.int (iI 1)), some (.int (iI 1)), some (.int (iI 2))]) (st' := [.int (iI 2), .ref 95, .int (iI 1)]) (g1 := (HW sc ar tx oc rl ou tl, q)) rfl ?_
    refine RQ.ialdv (z := 2) (v := (mny nw nb W B 2)) rfl rfl rfl (by omega) (by decide) ((hP 2 (by omega) (by omega)).1.trans (mny_t (by omega)).symm) ?_
    refine RQ.seg 7 (pc' := 11) (L' := [some (.ref 80), some (.int (iI 1)), some (.int ((iI 1) * (iI (mny nw nb W B 2)))), some (.int (iI 3))]) (st' := [.int (iI (sc 8025)), .int (iI 3)]) (g1 := (HW sc ar tx oc rl ou tl, q)) rfl ?_
    refine RQ.if2 (a := 3) (b := (sc 8025)) rfl rfl rfl rfl (by omega) (by omega) (fun _ => ?_) (fun (q : ¬ sc 8025 ≤ 3) => absurd (show sc 8025 ≤ 3 from by omega) q)
    refine RQ.seg 1 (pc' := 30) (L' := [some (.ref 80), some (.int (iI 1)), some (.int ((iI 1) * (iI (mny nw nb W B 2)))), some (.int (iI 3))]) (st' := [.int ((iI 1) * (iI (mny nw nb W B 2)))]) (g1 := (HW sc ar tx oc rl ou tl, q)) rfl ?_
    refine RQ.to (L' := [some (.ref 80), some (.int (iI 1)), some (.int (iI (1 * (mny nw nb W B 2)))), some (.int (iI 3))]) (st' := [.int (iI (1 * (mny nw nb W B 2)))]) (by simp only [iI_add, iI_sub, iI_mul, iI_neg]) (by simp only [iI_add, iI_sub, iI_mul, iI_neg]) ?_
    refine RQ.ret rfl rfl ?_
    refine ⟨?_, rfl⟩
    rw [show s3 (mny nw nb W B) 1 = 1 * (mny nw nb W B 2) by rw [s3_1]; first | rfl | (rw [mny_f (b := 2) (by omega)]; done) | (rw [Int.one_mul]; done) | (rw [mny_f (b := 2) (by omega), Int.mul_one, Int.one_mul]; done) | (rw [mny_f (b := 1) (by omega), mny_f (b := 2) (by omega)]; rfl)]
theorem m_stride2 {K : PK} {d : Nat} {sc : Nat → Int} {ar : Nat → Int → Int} {tx oc : Nat} {rl : Nat → Option Nat} {ou : Nat → Int64} {tl : List PO} {q : Nat × Nat} {nw nb : Int} {W B : Int → Int → Int} (hF : FrOK nw nb W B) (hM : FrM (sc 8024) (sc 8025) (ar 85) (ar 86) nw nb W B) (hP : PMx nw nb W B (ar 94) (ar 95)) (hb : 2 < nb) : CallR K (d + 1) 203 [.ref 80, .int (iI 2)] (HW sc ar tx oc rl ou tl, q) (some (.int (iI (s3 (mny nw nb W B) 2)))) (HW sc ar tx oc rl ou tl, q) := by
  apply CQ.x
  have hn := hF.1
  have hm1 := hM.1
  have hm2 := hM.2.1
  refine CQ.of (own := 11) (n := 4) (ini := false) (rt := (some .int)) (cd := cd203) (by decide +kernel) rfl (by decide +kernel) rfl (Nat.le_of_ble_eq_true rfl) ?_
  refine RQ.seg 9 (pc' := 11) (L' := [some (.ref 80), some (.int (iI 2)), some (.int (iI 1)), some (.int (iI 3))]) (st' := [.int (iI (sc 8025)), .int (iI 3)]) (g1 := (HW sc ar tx oc rl ou tl, q)) rfl ?_
  refine RQ.if2 (a := 3) (b := (sc 8025)) rfl rfl rfl rfl (by omega) (by omega) (fun _ => ?_) (fun (q : ¬ sc 8025 ≤ 3) => absurd (show sc 8025 ≤ 3 from by omega) q)
  refine RQ.seg 1 (pc' := 30) (L' := [some (.ref 80), some (.int (iI 2)), some (.int (iI 1)), some (.int (iI 3))]) (st' := [.int (iI 1)]) (g1 := (HW sc ar tx oc rl ou tl, q)) rfl ?_
  refine RQ.ret rfl rfl ?_
  refine ⟨?_, rfl⟩
  rfl
theorem m_stride {K : PK} {d : Nat} {sc : Nat → Int} {ar : Nat → Int → Int} {tx oc : Nat} {rl : Nat → Option Nat} {ou : Nat → Int64} {tl : List PO} {q : Nat × Nat} {b : Int} {nw nb : Int} {W B : Int → Int → Int} (hF : FrOK nw nb W B) (hM : FrM (sc 8024) (sc 8025) (ar 85) (ar 86) nw nb W B) (hP : PMx nw nb W B (ar 94) (ar 95)) (hb : 0 ≤ b ∧ b < nb) : CallR K (d + 1) 203 [.ref 80, .int (iI b)] (HW sc ar tx oc rl ou tl, q) (some (.int (iI (s3 (mny nw nb W B) b)))) (HW sc ar tx oc rl ou tl, q) := by
  have hn := hF.1
  rcases (show b = 0 ∨ b = 1 ∨ b = 2 by omega) with rfl | rfl | rfl
  · exact m_stride0 hF hM hP hb.2
  · exact m_stride1 hF hM hP hb.2
  · exact m_stride2 hF hM hP hb.2
theorem m_putAt {K : PK} {d : Nat} {sc : Nat → Int} {ar : Nat → Int → Int} {tx oc : Nat} {rl : Nat → Option Nat} {ou : Nat → Int64} {tl : List PO} {q : Nat × Nat} {i b : Int} {nw nb : Int} {W B : Int → Int → Int} (hF : FrOK nw nb W B) (hM : FrM (sc 8024) (sc 8025) (ar 85) (ar 86) nw nb W B) (hP : PMx nw nb W B (ar 94) (ar 95)) (hi : 0 ≤ i ∧ i < 2147483648) (hb : 0 ≤ b ∧ b < nb) : CallR K (d + 2) 204 [.ref 80, .int (iI i), .int (iI b)] (HW sc ar tx oc rl ou tl, q) (some (.int (iI (x3 (mny nw nb W B) i b)))) (HW sc ar tx oc rl ou tl, q) := by
  apply CQ.x
  have hn := hF.1
  have hm1 := hM.1
  have hm2 := hM.2.1
  have hB := mny_b (nw := nw) (nb := nb) (W := W) (B := B) hF.1.2.1
  have hs := s3_r hB b
  have hm := hB b (by omega) (by omega)
  have hq0 : 0 ≤ i / s3 (mny nw nb W B) b := Int.ediv_nonneg hi.1 (by omega)
  have hq1 : i / s3 (mny nw nb W B) b ≤ i := Int.ediv_le_self _ hi.1
  refine CQ.of (own := 11) (n := 3) (ini := false) (rt := (some .int)) (cd := cd204) (by decide +kernel) rfl (by decide +kernel) rfl (Nat.le_of_ble_eq_true rfl) ?_
  refine RQ.seg 3 (pc' := 3) (L' := [some (.ref 80), some (.int (iI i)), some (.int (iI b))]) (st' := [.int (iI b), .ref 80, .int (iI i)]) (g1 := (HW sc ar tx oc rl ou tl, q)) rfl ?_
  refine RQ.call rfl rfl (CallR.up (d := 1) (m_stride (d := 0) (b := b) hF hM hP (by omega)) (by omega)) ?_
  refine RQ.idiv (a := i) (b := (s3 (mny nw nb W B) b)) rfl rfl rfl (by omega) (by omega) ?_
  refine RQ.seg 3 (pc' := 12) (L' := [some (.ref 80), some (.int (iI i)), some (.int (iI b))]) (st' := [.int (iI b), .ref 95, .int (iI (i / (s3 (mny nw nb W B) b)))]) (g1 := (HW sc ar tx oc rl ou tl, q)) rfl ?_
  refine RQ.ialdv (z := b) (v := (mny nw nb W B b)) rfl rfl rfl (by omega) (by decide) ((hP b (by omega) (by omega)).1.trans (mny_t (by omega)).symm) ?_
  refine RQ.irem (a := (i / (s3 (mny nw nb W B) b))) (b := (mny nw nb W B b)) rfl rfl rfl (by omega) (by omega) ?_
  refine RQ.ret rfl rfl ?_
  exact ⟨rfl, rfl⟩
theorem m_tr_l {K : PK} {d : Nat} {sc : Nat → Int} {ar : Nat → Int → Int} {tx oc : Nat} {rl : Nat → Option Nat} {ou : Nat → Int64} {tl : List PO} {q : Nat × Nat} {Q : Option Value → PG → Prop} {i : Int} {nw nb : Int} {W B : Int → Int → Int} (hF : FrOK nw nb W B) (hM : FrM (sc 8024) (sc 8025) (ar 85) (ar 86) nw nb W B) (hP : PMx nw nb W B (ar 94) (ar 95)) (hi : 0 ≤ i ∧ i < 2147483648) (hk : ∀ f' : Int → Int, (∀ c, 0 ≤ c → c < nb → f' c = PI nw nb W B i c) → Q none (HW sc (usc ar 96 f') tx oc rl ou tl, q)) : ∀ (m b : Nat) (f : Int → Int) (hm : (b : Int) + m = nb) (hf : (∀ c, 0 ≤ c → c < (b : Int) → f c = PI nw nb W B i c)), RQ K (d + 2) 11 false none cd205 2 [some (.ref 80), some (.int (iI i)), some (.int (iI (b : Int)))] [] (HW sc (usc ar 96 f) tx oc rl ou tl, q) Q
  | 0, b, f, hm, hf => by
    have hn := hF.1
    have hm1 := hM.1
    have hm2 := hM.2.1
    have hB := mny_b (nw := nw) (nb := nb) (W := W) (B := B) hF.1.2.1
    refine RQ.seg 3 (pc' := 7) (L' := [some (.ref 80), some (.int (iI i)), some (.int (iI (b : Int)))]) (st' := [.int (iI (sc 8025)), .int (iI (b : Int))]) (g1 := (HW sc (usc ar 96 f) tx oc rl ou tl, q)) rfl ?_
    refine RQ.if2 (a := (b : Int)) (b := (sc 8025)) rfl rfl rfl rfl (by omega) (by omega) (fun _ => ?_) (fun (q : ¬ sc 8025 ≤ (b : Int)) => absurd (show sc 8025 ≤ (b : Int) from by omega) q)
    refine RQ.ret rfl rfl ?_
    obtain rfl : nb = (b : Int) := by omega
    exact hk f hf
  | m + 1, b, f, hm, hf => by
    have hn := hF.1
    have hm1 := hM.1
    have hm2 := hM.2.1
    have hB := mny_b (nw := nw) (nb := nb) (W := W) (B := B) hF.1.2.1
    have hm3 := hB (b : Int) (by omega) (by omega)
    have hx := x3_r hB (i := i) (b := (b : Int)) (by omega)
    have hxl := hx.2
    rw [mny_t (by omega)] at hxl
    refine RQ.seg 3 (pc' := 7) (L' := [some (.ref 80), some (.int (iI i)), some (.int (iI (b : Int)))]) (st' := [.int (iI (sc 8025)), .int (iI (b : Int))]) (g1 := (HW sc (usc ar 96 f) tx oc rl ou tl, q)) rfl ?_
    refine RQ.if2 (a := (b : Int)) (b := (sc 8025)) rfl rfl rfl rfl (by omega) (by omega) (fun (q : sc 8025 ≤ (b : Int)) => absurd q (show ¬ sc 8025 ≤ (b : Int) from by omega)) (fun _ => ?_)
    refine RQ.seg 11 (pc' := 26) (L' := [some (.ref 80), some (.int (iI i)), some (.int (iI (b : Int)))]) (st' := [.int (iI (b : Int)), .int (iI i), .ref 80, .int ((iI 25) * (iI (b : Int))), .ref 94, .int (iI (b : Int)), .ref 96]) (g1 := (HW sc (usc ar 96 f) tx oc rl ou tl, q)) rfl ?_
    refine RQ.to (L' := [some (.ref 80), some (.int (iI i)), some (.int (iI (b : Int)))]) (st' := [.int (iI (b : Int)), .int (iI i), .ref 80, .int (iI (25 * (b : Int))), .ref 94, .int (iI (b : Int)), .ref 96]) rfl (by simp only [iI_add, iI_sub, iI_mul, iI_neg]) ?_
    refine RQ.call rfl rfl (CallR.up (d := 2) (m_putAt (d := 0) (i := i) (b := (b : Int)) hF hM hP (by omega) (by omega)) (by omega)) ?_
    refine RQ.seg 1 (pc' := 30) (L' := [some (.ref 80), some (.int (iI i)), some (.int (iI (b : Int)))]) (st' := [.int ((iI (25 * (b : Int))) + (iI (x3 (mny nw nb W B) i (b : Int)))), .ref 94, .int (iI (b : Int)), .ref 96]) (g1 := (HW sc (usc ar 96 f) tx oc rl ou tl, q)) rfl ?_
    refine RQ.ialdv (z := (25 * (b : Int) + (x3 (mny nw nb W B) i (b : Int)))) (v := (PI nw nb W B i (b : Int))) rfl (by simp only [iI_add, iI_sub, iI_mul, iI_neg]) rfl (by omega) (by decide) (((hP (b : Int) (by omega) (by omega)).2 (x3 (mny nw nb W B) i (b : Int)) (by omega) hxl).trans (PI_t (by omega)).symm) ?_
    refine RQ.iast (z := (b : Int)) (v := (PI nw nb W B i (b : Int))) (g1 := (HW sc (usc ar 96 (usz f (b : Int) (PI nw nb W B i (b : Int)))) tx oc rl ou tl, q)) rfl rfl rfl rfl (by omega) (by decide) (HWa_96 (by funext j; unfold usc; cases hb : Nat.beq j 96 <;> first | rfl | (rw [Nat.eq_of_beq_eq_true hb]; rfl))) ?_
    refine RQ.seg 2 (pc' := 2) (L' := [some (.ref 80), some (.int (iI i)), some (.int ((iI (b : Int)) + (iI 1)))]) (st' := []) (g1 := (HW sc (usc ar 96 (usz f (b : Int) (PI nw nb W B i (b : Int)))) tx oc rl ou tl, q)) rfl ?_
    refine RQ.to (L' := [some (.ref 80), some (.int (iI i)), some (.int (iI ((b : Int) + 1)))]) (st' := []) (by simp only [iI_add, iI_sub, iI_mul, iI_neg]) rfl ?_
    refine m_tr_l hF hM hP hi hk m (b + 1) _ (by omega) (fun c c0 c1 => ?_)
    by_cases e : c = (b : Int)
    · subst e; exact usz_s _ _ _
    · rw [usz_n e]; exact hf c c0 (by omega)
theorem m_takeRow {K : PK} {d : Nat} {sc : Nat → Int} {ar : Nat → Int → Int} {tx oc : Nat} {rl : Nat → Option Nat} {ou : Nat → Int64} {tl : List PO} {q : Nat × Nat} {i : Int} {nw nb : Int} {W B : Int → Int → Int} (hF : FrOK nw nb W B) (hM : FrM (sc 8024) (sc 8025) (ar 85) (ar 86) nw nb W B) (hP : PMx nw nb W B (ar 94) (ar 95)) (hi : 0 ≤ i ∧ i < 2147483648) : CQ K (d + 3) 205 [.ref 80, .int (iI i)] (HW sc ar tx oc rl ou tl, q) (fun r g' => r = none ∧ ∃ f, g' = (HW sc (usc ar 96 f) tx oc rl ou tl, q) ∧ (∀ c, 0 ≤ c → c < nb → f c = PI nw nb W B i c)) := by
  have hn := hF.1
  have hm1 := hM.1
  have hm2 := hM.2.1
  refine CQ.of (own := 11) (n := 3) (ini := false) (rt := none) (cd := cd205) (by decide +kernel) rfl (by decide +kernel) rfl (Nat.le_of_ble_eq_true rfl) ?_
  refine RQ.seg 2 (pc' := 2) (L' := [some (.ref 80), some (.int (iI i)), some (.int (iI 0))]) (st' := []) (g1 := (HW sc ar tx oc rl ou tl, q)) rfl ?_
  refine RQ.hp (g1 := (HW sc (usc ar 96 (ar 96)) tx oc rl ou tl, q)) (congrArg (fun a => (HW sc a tx oc rl ou tl, q)) (show ar = usc ar 96 (ar 96) by funext j; unfold usc; cases hb : Nat.beq j 96 <;> first | rfl | (rw [Nat.eq_of_beq_eq_true hb]; rfl))) ?_
  exact m_tr_l (ar := ar) hF hM hP hi (fun f hf => ⟨rfl, f, rfl, hf⟩) nb.toNat 0 (ar 96) (by omega) (fun c c0 c1 => absurd c1 (by omega))
theorem m_nu_l {K : PK} {d : Nat} {sc : Nat → Int} {ar : Nat → Int → Int} {tx oc : Nat} {rl : Nat → Option Nat} {ou : Nat → Int64} {tl : List PO} {q : Nat × Nat} {Q : Option Value → PG → Prop} {i : Int} {nw nb : Int} {W B : Int → Int → Int} (hF : FrOK nw nb W B) (hM : FrM (sc 8024) (sc 8025) (ar 85) (ar 86) nw nb W B) (hP : PMx nw nb W B (ar 94) (ar 95)) {f : Int → Int} (hf : (∀ c, 0 ≤ c → c < nb → f c = PI nw nb W B i c)) (hk : Q (some (.int (iI (rnm (PI nw nb W B i) nb.toNat)))) (HW sc (usc ar 96 f) tx oc rl ou tl, q)) : ∀ (m b : Nat) (hm : (b : Int) + m = nb), RQ K (d + 3) 11 false (some .int) cd206 9 [some (.ref 80), some (.int (iI i)), some (.int (iI (rnm (PI nw nb W B i) b))), some (.int (iI (b : Int)))] [] (HW sc (usc ar 96 f) tx oc rl ou tl, q) Q
  | 0, b, hm => by
    have hn := hF.1
    have hm1 := hM.1
    have hm2 := hM.2.1
    refine RQ.seg 3 (pc' := 14) (L' := [some (.ref 80), some (.int (iI i)), some (.int (iI (rnm (PI nw nb W B i) b))), some (.int (iI (b : Int)))]) (st' := [.int (iI (sc 8025)), .int (iI (b : Int))]) (g1 := (HW sc (usc ar 96 f) tx oc rl ou tl, q)) rfl ?_
    refine RQ.if2 (a := (b : Int)) (b := (sc 8025)) rfl rfl rfl rfl (by omega) (by omega) (fun _ => ?_) (fun (q : ¬ sc 8025 ≤ (b : Int)) => absurd (show sc 8025 ≤ (b : Int) from by omega) q)
    refine RQ.seg 1 (pc' := 36) (L' := [some (.ref 80), some (.int (iI i)), some (.int (iI (rnm (PI nw nb W B i) b))), some (.int (iI (b : Int)))]) (st' := [.int (iI (rnm (PI nw nb W B i) b))]) (g1 := (HW sc (usc ar 96 f) tx oc rl ou tl, q)) rfl ?_
    refine RQ.ret rfl rfl ?_
    obtain rfl : nb = (b : Int) := by omega
    exact hk
  | m + 1, b, hm => by
    have hn := hF.1
    have hm1 := hM.1
    have hm2 := hM.2.1
    refine RQ.seg 3 (pc' := 14) (L' := [some (.ref 80), some (.int (iI i)), some (.int (iI (rnm (PI nw nb W B i) b))), some (.int (iI (b : Int)))]) (st' := [.int (iI (sc 8025)), .int (iI (b : Int))]) (g1 := (HW sc (usc ar 96 f) tx oc rl ou tl, q)) rfl ?_
    refine RQ.if2 (a := (b : Int)) (b := (sc 8025)) rfl rfl rfl rfl (by omega) (by omega) (fun (q : sc 8025 ≤ (b : Int)) => absurd q (show ¬ sc 8025 ≤ (b : Int) from by omega)) (fun _ => ?_)
    refine RQ.seg 6 (pc' := 26) (L' := [some (.ref 80), some (.int (iI i)), some (.int (iI (rnm (PI nw nb W B i) b))), some (.int (iI (b : Int)))]) (st' := [.int (iI (b : Int)), .ref 96, .int ((iI 100) * (iI (rnm (PI nw nb W B i) b)))]) (g1 := (HW sc (usc ar 96 f) tx oc rl ou tl, q)) rfl ?_
    refine RQ.ialdv (z := (b : Int)) (v := (PI nw nb W B i (b : Int))) rfl rfl rfl (by omega) (by decide) (hf (b : Int) (by omega) (by omega)) ?_
    refine RQ.seg 4 (pc' := 9) (L' := [some (.ref 80), some (.int (iI i)), some (.int (((iI 100) * (iI (rnm (PI nw nb W B i) b))) + (iI (PI nw nb W B i (b : Int))))), some (.int ((iI (b : Int)) + (iI 1)))]) (st' := []) (g1 := (HW sc (usc ar 96 f) tx oc rl ou tl, q)) rfl ?_
    refine RQ.to (L' := [some (.ref 80), some (.int (iI i)), some (.int (iI (100 * (rnm (PI nw nb W B i) b) + (PI nw nb W B i (b : Int))))), some (.int (iI ((b : Int) + 1)))]) (st' := []) (by simp only [iI_add, iI_sub, iI_mul, iI_neg]) rfl ?_
    rw [show 100 * rnm (PI nw nb W B i) b + PI nw nb W B i (b : Int) = rnm (PI nw nb W B i) (b + 1) by rw [rnm]; omega]
    exact m_nu_l hF hM hP hf hk m (b + 1) (by omega)
theorem m_numberOf {K : PK} {d : Nat} {sc : Nat → Int} {ar : Nat → Int → Int} {tx oc : Nat} {rl : Nat → Option Nat} {ou : Nat → Int64} {tl : List PO} {q : Nat × Nat} {i : Int} {nw nb : Int} {W B : Int → Int → Int} (hF : FrOK nw nb W B) (hM : FrM (sc 8024) (sc 8025) (ar 85) (ar 86) nw nb W B) (hP : PMx nw nb W B (ar 94) (ar 95)) (hi : 0 ≤ i ∧ i < 2147483648) : CQ K (d + 4) 206 [.ref 80, .int (iI i)] (HW sc ar tx oc rl ou tl, q) (fun r g' => r = some (.int (iI (rnm (PI nw nb W B i) nb.toNat))) ∧ ∃ f, g' = (HW sc (usc ar 96 f) tx oc rl ou tl, q)) := by
  have hn := hF.1
  have hm1 := hM.1
  have hm2 := hM.2.1
  refine CQ.of (own := 11) (n := 4) (ini := false) (rt := (some .int)) (cd := cd206) (by decide +kernel) rfl (by decide +kernel) rfl (Nat.le_of_ble_eq_true rfl) ?_
  refine RQ.seg 2 (pc' := 2) (L' := [some (.ref 80), some (.int (iI i)), none, none]) (st' := [.int (iI i), .ref 80]) (g1 := (HW sc ar tx oc rl ou tl, q)) rfl ?_
  refine RQ.callQ rfl rfl (m_takeRow (i := i) hF hM hP hi) (fun rv g1 hc => ?_)
  obtain ⟨rfl, f, rfl, hf⟩ := hc
  refine RQ.seg 4 (pc' := 9) (L' := [some (.ref 80), some (.int (iI i)), some (.int (iI 0)), some (.int (iI 0))]) (st' := []) (g1 := (HW sc (usc ar 96 f) tx oc rl ou tl, q)) rfl ?_
  exact m_nu_l hF hM hP hf ⟨rfl, f, rfl⟩ nb.toNat 0 (by omega)
theorem m_ly_b {K : PK} {d : Nat} {sc : Nat → Int} {ar : Nat → Int → Int} {tx oc : Nat} {rl : Nat → Option Nat} {ou : Nat → Int64} {tl : List PO} {q : Nat × Nat} {Q : Option Value → PG → Prop} {nw nb : Int} {W B : Int → Int → Int} (hF : FrOK nw nb W B) (hM : FrM (sc 8024) (sc 8025) (ar 85) (ar 86) nw nb W B) {law : Int → Int} {k : Nat} {f0 g0 A1 A2 : Int → Int} (hk5 : k < 15625) (hJ : JdgP nw nb W B (PI nw nb W B (k : Int)) law sc ar) (hk : ∀ f' g' : Int → Int, (∀ c, 0 ≤ c → c < nb → f' (3 * (k : Int) + c) = rgn nw nb W B law (k : Int) c) → (∀ z, z < 3 * (k : Int) → f' z = f0 z) → g' (k : Int) = xcn nw nb W B (k : Int) nb.toNat → (∀ z, z ≠ (k : Int) → g' z = g0 z) → RQ K (d + 3) 11 false none cd207 150 [some (.ref 80), some (.int (iI (k : Int))), some (.int (iI nb))] [] (HW sc (usc (usc (usc (usc ar 107 f') 108 A1) 109 A2) 110 g') tx oc rl ou tl, q) Q) : ∀ (m n : Nat) (f g : Int → Int) (hm : (n : Int) + m = nb) (hf : ∀ c, 0 ≤ c → c < (n : Int) → f (3 * (k : Int) + c) = rgn nw nb W B law (k : Int) c) (hf0 : ∀ z, z < 3 * (k : Int) → f z = f0 z) (hg : g (k : Int) = xcn nw nb W B (k : Int) n) (hg0 : ∀ z, z ≠ (k : Int) → g z = g0 z), RQ K (d + 3) 11 false none cd207 84 [some (.ref 80), some (.int (iI (k : Int))), some (.int (iI (n : Int)))] [] (HW sc (usc (usc (usc (usc ar 107 f) 108 A1) 109 A2) 110 g) tx oc rl ou tl, q) Q
  | 0, n, f, g, hm, hf, hf0, hg, hg0 => by
    have hn := hF.1
    have hm1 := hM.1
    have hm2 := hM.2.1
    have hx8 := xcn_8 (nw := nw) (nb := nb) (W := W) (B := B) (i := (k : Int)) (n := n) (by omega)
    refine RQ.seg 3 (pc' := 89) (L' := [some (.ref 80), some (.int (iI (k : Int))), some (.int (iI (n : Int)))]) (st' := [.int (iI (sc 8025)), .int (iI (n : Int))]) (g1 := (HW sc (usc (usc (usc (usc ar 107 f) 108 A1) 109 A2) 110 g) tx oc rl ou tl, q)) rfl ?_
    refine RQ.if2 (a := (n : Int)) (b := (sc 8025)) rfl rfl rfl rfl (by omega) (by omega) (fun _ => ?_) (fun (q : ¬ sc 8025 ≤ (n : Int)) => absurd (show sc 8025 ≤ (n : Int) from by omega) q)
    obtain rfl : nb = (n : Int) := by omega
    rw [Int.toNat_natCast] at hk
    exact hk f g hf hf0 hg hg0
  | m + 1, n, f, g, hm, hf, hf0, hg, hg0 => by
    have hn := hF.1
    have hm1 := hM.1
    have hm2 := hM.2.1
    have hx8 := xcn_8 (nw := nw) (nb := nb) (W := W) (B := B) (i := (k : Int)) (n := n) (by omega)
    have hsr : 0 ≤ shk nb W B (PI nw nb W B (k : Int)) (n : Int) ∧ shk nb W B (PI nw nb W B (k : Int)) (n : Int) ≤ nb.toNat := shn_r nb W B (PI nw nb W B (k : Int)) (n : Int) nb.toNat
    refine RQ.seg 3 (pc' := 89) (L' := [some (.ref 80), some (.int (iI (k : Int))), some (.int (iI (n : Int)))]) (st' := [.int (iI (sc 8025)), .int (iI (n : Int))]) (g1 := (HW sc (usc (usc (usc (usc ar 107 f) 108 A1) 109 A2) 110 g) tx oc rl ou tl, q)) rfl ?_
    refine RQ.if2 (a := (n : Int)) (b := (sc 8025)) rfl rfl rfl rfl (by omega) (by omega) (fun (q : sc 8025 ≤ (n : Int)) => absurd q (show ¬ sc 8025 ≤ (n : Int) from by omega)) (fun _ => ?_)
    refine RQ.seg 10 (pc' := 106) (L' := [some (.ref 80), some (.int (iI (k : Int))), some (.int (iI (n : Int)))]) (st' := [.int (iI (n : Int)), .ref 100, .int (((iI 3) * (iI (k : Int))) + (iI (n : Int))), .ref 107]) (g1 := (HW sc (usc (usc (usc (usc ar 107 f) 108 A1) 109 A2) 110 g) tx oc rl ou tl, q)) rfl ?_
    refine RQ.ialdv (z := (n : Int)) (v := (rgn nw nb W B law (k : Int) (n : Int))) rfl rfl rfl (by omega) (by decide) (hJ.2.2.2.2.2 (n : Int) (by omega) (by omega)) ?_
    refine RQ.iast (z := (3 * (k : Int) + (n : Int))) (v := (rgn nw nb W B law (k : Int) (n : Int))) (g1 := (HW sc (usc (usc (usc (usc ar 107 (usz f (3 * (k : Int) + (n : Int)) (rgn nw nb W B law (k : Int) (n : Int)))) 108 A1) 109 A2) 110 g) tx oc rl ou tl, q)) rfl (by simp only [iI_add, iI_sub, iI_mul, iI_neg]) rfl rfl (by omega) (by decide) (HWa_107 (by funext j; unfold usc; cases hb : Nat.beq j 107 <;> first | rfl | (rw [Nat.eq_of_beq_eq_true hb]; rfl))) ?_
    refine RQ.seg 4 (pc' := 114) (L' := [some (.ref 80), some (.int (iI (k : Int))), some (.int (iI (n : Int)))]) (st' := [.int (iI (k : Int)), .ref 110, .int (iI (k : Int)), .ref 110]) (g1 := (HW sc (usc (usc (usc (usc ar 107 (usz f (3 * (k : Int) + (n : Int)) (rgn nw nb W B law (k : Int) (n : Int)))) 108 A1) 109 A2) 110 g) tx oc rl ou tl, q)) rfl ?_
    refine RQ.ialdv (z := (k : Int)) (v := (xcn nw nb W B (k : Int) n)) rfl rfl rfl (by omega) (by decide) hg ?_
    refine RQ.seg 2 (pc' := 119) (L' := [some (.ref 80), some (.int (iI (k : Int))), some (.int (iI (n : Int)))]) (st' := [.int (iI (sc 8046)), .int (iI (xcn nw nb W B (k : Int) n)), .int (iI (k : Int)), .ref 110]) (g1 := (HW sc (usc (usc (usc (usc ar 107 (usz f (3 * (k : Int) + (n : Int)) (rgn nw nb W B law (k : Int) (n : Int)))) 108 A1) 109 A2) 110 g) tx oc rl ou tl, q)) rfl ?_
    refine RQ.to (L' := [some (.ref 80), some (.int (iI (k : Int))), some (.int (iI (n : Int)))]) (st' := [.int (iI (mkb nb B (PI nw nb W B (k : Int)))), .int (iI (xcn nw nb W B (k : Int) n)), .int (iI (k : Int)), .ref 110]) rfl (by rw [show sc 8046 = mkb nb B (PI nw nb W B (k : Int)) from hJ.2.2.1]) ?_
    refine RQ.seg 1 (pc' := 120) (L' := [some (.ref 80), some (.int (iI (k : Int))), some (.int (iI (n : Int)))]) (st' := [.int (iI (n : Int)), .int (iI (mkb nb B (PI nw nb W B (k : Int)))), .int (iI (xcn nw nb W B (k : Int) n)), .int (iI (k : Int)), .ref 110]) (g1 := (HW sc (usc (usc (usc (usc ar 107 (usz f (3 * (k : Int) + (n : Int)) (rgn nw nb W B law (k : Int) (n : Int)))) 108 A1) 109 A2) 110 g) tx oc rl ou tl, q)) rfl ?_
    rcases (show bkv nb B (PI nw nb W B (k : Int)) (n : Int) = 1 ∨ bkv nb B (PI nw nb W B (k : Int)) (n : Int) = 0 by have := bkv_r nb B (PI nw nb W B (k : Int)) (n : Int); omega) with hbk | hbk
    · skip
      have hs0 : shk nb W B (PI nw nb W B (k : Int)) (n : Int) = 0 := shn_b hbk _
      refine RQ.call rfl rfl (CallR.up (d := 1) (m_hasB_t (d := 0) (by omega) (by omega) hbk) (by omega)) ?_
      refine RQ.seg 2 (pc' := 142) (L' := [some (.ref 80), some (.int (iI (k : Int))), some (.int (iI (n : Int)))]) (st' := [.int (iI 0), .int (iI (xcn nw nb W B (k : Int) n)), .int (iI (k : Int)), .ref 110]) (g1 := (HW sc (usc (usc (usc (usc ar 107 (usz f (3 * (k : Int) + (n : Int)) (rgn nw nb W B law (k : Int) (n : Int)))) 108 A1) 109 A2) 110 g) tx oc rl ou tl, q)) rfl ?_
      refine RQ.ior0 (a := (xcn nw nb W B (k : Int) n)) rfl rfl rfl ?_
      refine RQ.iast (z := (k : Int)) (v := (xcn nw nb W B (k : Int) n)) (g1 := (HW sc (usc (usc (usc (usc ar 107 (usz f (3 * (k : Int) + (n : Int)) (rgn nw nb W B law (k : Int) (n : Int)))) 108 A1) 109 A2) 110 (usz g (k : Int) (xcn nw nb W B (k : Int) n))) tx oc rl ou tl, q)) rfl rfl rfl rfl (by omega) (by decide) (HWa_110 (by funext j; unfold usc; cases hb : Nat.beq j 110 <;> first | rfl | (rw [Nat.eq_of_beq_eq_true hb]; rfl))) ?_
      refine RQ.seg 2 (pc' := 84) (L' := [some (.ref 80), some (.int (iI (k : Int))), some (.int ((iI (n : Int)) + (iI 1)))]) (st' := []) (g1 := (HW sc (usc (usc (usc (usc ar 107 (usz f (3 * (k : Int) + (n : Int)) (rgn nw nb W B law (k : Int) (n : Int)))) 108 A1) 109 A2) 110 (usz g (k : Int) (xcn nw nb W B (k : Int) n))) tx oc rl ou tl, q)) rfl ?_
      refine RQ.to (L' := [some (.ref 80), some (.int (iI (k : Int))), some (.int (iI ((n : Int) + 1)))]) (st' := []) (by simp only [iI_add, iI_sub, iI_mul, iI_neg]) rfl ?_
      refine m_ly_b hF hM hk5 hJ hk m (n + 1) _ _ (by omega) (fun c c0 c1 => ?_) (fun z hz => (usz_n (by omega)).trans (hf0 z hz)) ?_ (fun z hz => (usz_n hz).trans (hg0 z hz))
      · by_cases e : c = (n : Int)
        · subst e; exact usz_s _ _ _
        · rw [usz_n (by omega)]; exact hf c c0 (by omega)
      · rw [usz_s, xcn]; first | rw [if_pos (by omega)] | rw [if_neg (by omega)]
    · skip
      refine RQ.call rfl rfl (CallR.up (d := 1) (m_hasB_f (d := 0) (by omega) (by omega) hbk) (by omega)) ?_
      refine RQ.seg 4 (pc' := 131) (L' := [some (.ref 80), some (.int (iI (k : Int))), some (.int (iI (n : Int)))]) (st' := [.int (iI (n : Int)), .ref 97, .int (iI (xcn nw nb W B (k : Int) n)), .int (iI (k : Int)), .ref 110]) (g1 := (HW sc (usc (usc (usc (usc ar 107 (usz f (3 * (k : Int) + (n : Int)) (rgn nw nb W B law (k : Int) (n : Int)))) 108 A1) 109 A2) 110 g) tx oc rl ou tl, q)) rfl ?_
      refine RQ.ialdv (z := (n : Int)) (v := (shk nb W B (PI nw nb W B (k : Int)) (n : Int))) rfl rfl rfl (by omega) (by decide) (hJ.2.2.2.1 (n : Int) (by omega) (by omega)) ?_
      refine RQ.if1 (a := (shk nb W B (PI nw nb W B (k : Int)) (n : Int))) rfl rfl rfl (by omega) (fun (h2 : shk nb W B (PI nw nb W B (k : Int)) (n : Int) ≤ 0) => ?_) (fun (h2 : ¬ shk nb W B (PI nw nb W B (k : Int)) (n : Int) ≤ 0) => ?_)
      · skip
        refine RQ.seg 1 (pc' := 142) (L' := [some (.ref 80), some (.int (iI (k : Int))), some (.int (iI (n : Int)))]) (st' := [.int (iI 0), .int (iI (xcn nw nb W B (k : Int) n)), .int (iI (k : Int)), .ref 110]) (g1 := (HW sc (usc (usc (usc (usc ar 107 (usz f (3 * (k : Int) + (n : Int)) (rgn nw nb W B law (k : Int) (n : Int)))) 108 A1) 109 A2) 110 g) tx oc rl ou tl, q)) rfl ?_
        refine RQ.ior0 (a := (xcn nw nb W B (k : Int) n)) rfl rfl rfl ?_
        refine RQ.iast (z := (k : Int)) (v := (xcn nw nb W B (k : Int) n)) (g1 := (HW sc (usc (usc (usc (usc ar 107 (usz f (3 * (k : Int) + (n : Int)) (rgn nw nb W B law (k : Int) (n : Int)))) 108 A1) 109 A2) 110 (usz g (k : Int) (xcn nw nb W B (k : Int) n))) tx oc rl ou tl, q)) rfl rfl rfl rfl (by omega) (by decide) (HWa_110 (by funext j; unfold usc; cases hb : Nat.beq j 110 <;> first | rfl | (rw [Nat.eq_of_beq_eq_true hb]; rfl))) ?_
        refine RQ.seg 2 (pc' := 84) (L' := [some (.ref 80), some (.int (iI (k : Int))), some (.int ((iI (n : Int)) + (iI 1)))]) (st' := []) (g1 := (HW sc (usc (usc (usc (usc ar 107 (usz f (3 * (k : Int) + (n : Int)) (rgn nw nb W B law (k : Int) (n : Int)))) 108 A1) 109 A2) 110 (usz g (k : Int) (xcn nw nb W B (k : Int) n))) tx oc rl ou tl, q)) rfl ?_
        refine RQ.to (L' := [some (.ref 80), some (.int (iI (k : Int))), some (.int (iI ((n : Int) + 1)))]) (st' := []) (by simp only [iI_add, iI_sub, iI_mul, iI_neg]) rfl ?_
        refine m_ly_b hF hM hk5 hJ hk m (n + 1) _ _ (by omega) (fun c c0 c1 => ?_) (fun z hz => (usz_n (by omega)).trans (hf0 z hz)) ?_ (fun z hz => (usz_n hz).trans (hg0 z hz))
        · by_cases e : c = (n : Int)
          · subst e; exact usz_s _ _ _
          · rw [usz_n (by omega)]; exact hf c c0 (by omega)
        · rw [usz_s, xcn]; first | rw [if_pos (by omega)] | rw [if_neg (by omega)]
      · skip
        refine RQ.seg 2 (pc' := 137) (L' := [some (.ref 80), some (.int (iI (k : Int))), some (.int (iI (n : Int)))]) (st' := [.int (iI (n : Int)), .int (iI 1), .int (iI (xcn nw nb W B (k : Int) n)), .int (iI (k : Int)), .ref 110]) (g1 := (HW sc (usc (usc (usc (usc ar 107 (usz f (3 * (k : Int) + (n : Int)) (rgn nw nb W B law (k : Int) (n : Int)))) 108 A1) 109 A2) 110 g) tx oc rl ou tl, q)) rfl ?_
        refine RQ.ishl1 (b := (n : Int)) rfl rfl rfl (by omega) ?_
        refine RQ.seg 1 (pc' := 142) (L' := [some (.ref 80), some (.int (iI (k : Int))), some (.int (iI (n : Int)))]) (st' := [.int (iI (2 ^ ((n : Int)).toNat)), .int (iI (xcn nw nb W B (k : Int) n)), .int (iI (k : Int)), .ref 110]) (g1 := (HW sc (usc (usc (usc (usc ar 107 (usz f (3 * (k : Int) + (n : Int)) (rgn nw nb W B law (k : Int) (n : Int)))) 108 A1) 109 A2) 110 g) tx oc rl ou tl, q)) rfl ?_
        refine RQ.ior (a := (xcn nw nb W B (k : Int) n)) (b := ((n : Int))) rfl rfl rfl (by omega) (by omega) ?_
        refine RQ.iast (z := (k : Int)) (v := (orz (xcn nw nb W B (k : Int) n) ((n : Int)))) (g1 := (HW sc (usc (usc (usc (usc ar 107 (usz f (3 * (k : Int) + (n : Int)) (rgn nw nb W B law (k : Int) (n : Int)))) 108 A1) 109 A2) 110 (usz g (k : Int) (orz (xcn nw nb W B (k : Int) n) ((n : Int))))) tx oc rl ou tl, q)) rfl rfl rfl rfl (by omega) (by decide) (HWa_110 (by funext j; unfold usc; cases hb : Nat.beq j 110 <;> first | rfl | (rw [Nat.eq_of_beq_eq_true hb]; rfl))) ?_
        refine RQ.seg 2 (pc' := 84) (L' := [some (.ref 80), some (.int (iI (k : Int))), some (.int ((iI (n : Int)) + (iI 1)))]) (st' := []) (g1 := (HW sc (usc (usc (usc (usc ar 107 (usz f (3 * (k : Int) + (n : Int)) (rgn nw nb W B law (k : Int) (n : Int)))) 108 A1) 109 A2) 110 (usz g (k : Int) (orz (xcn nw nb W B (k : Int) n) ((n : Int))))) tx oc rl ou tl, q)) rfl ?_
        refine RQ.to (L' := [some (.ref 80), some (.int (iI (k : Int))), some (.int (iI ((n : Int) + 1)))]) (st' := []) (by simp only [iI_add, iI_sub, iI_mul, iI_neg]) rfl ?_
        refine m_ly_b hF hM hk5 hJ hk m (n + 1) _ _ (by omega) (fun c c0 c1 => ?_) (fun z hz => (usz_n (by omega)).trans (hf0 z hz)) ?_ (fun z hz => (usz_n hz).trans (hg0 z hz))
        · by_cases e : c = (n : Int)
          · subst e; exact usz_s _ _ _
          · rw [usz_n (by omega)]; exact hf c c0 (by omega)
        · rw [usz_s, xcn]; first | rw [if_pos (by omega)] | rw [if_neg (by omega)]
theorem m_ly_k {K : PK} {d : Nat} {tx oc : Nat} {rl : Nat → Option Nat} {ou : Nat → Int64} {tl : List PO} {q : Nat × Nat} {Q : Option Value → PG → Prop} {nw nb : Int} {W B : Int → Int → Int} (hF : FrOK nw nb W B) {law : Int → Int} (hL : LwOK law) : ∀ (m k : Nat) (sc : Nat → Int) (ar : Nat → Int → Int) (e2 : Option Value) (hm : (k : Int) + m = t3 (mny nw nb W B)) (hM : FrM (sc 8024) (sc 8025) (ar 85) (ar 86) nw nb W B) (hP : PMx nw nb W B (ar 94) (ar 95)) (hlw : ∀ j, 0 ≤ j → j < 4 → ar 87 j = law j) (hrm : sc 8052 = t3 (mny nw nb W B)) (hd : LyD nw nb W B law (k : Int) ar) (hk : ∀ sc' ar', Same scF sc sc' → Same scA ar ar' → LyR nw nb W B law sc' ar' → Q none (HW sc' ar' tx oc rl ou tl, q)), RQ K (d + 3) 11 false none cd207 38 [some (.ref 80), some (.int (iI (k : Int))), e2] [] (HW sc ar tx oc rl ou tl, q) Q
  | 0, k, sc, ar, e2, hm, hM, hP, hlw, hrm, hd, hk => by
    have hn := hF.1
    have hm1 := hM.1
    have hm2 := hM.2.1
    have hB := mny_b (nw := nw) (nb := nb) (W := W) (B := B) hF.1.2.1
    have ht3 := t3_r hB
    refine RQ.seg 3 (pc' := 43) (L' := [some (.ref 80), some (.int (iI (k : Int))), e2]) (st' := [.int (iI (sc 8052)), .int (iI (k : Int))]) (g1 := (HW sc ar tx oc rl ou tl, q)) rfl ?_
    refine RQ.to (L' := [some (.ref 80), some (.int (iI (k : Int))), e2]) (st' := [.int (iI (t3 (mny nw nb W B))), .int (iI (k : Int))]) rfl (by rw [show sc 8052 = t3 (mny nw nb W B) from hrm]) ?_
    refine RQ.if2 (a := (k : Int)) (b := (t3 (mny nw nb W B))) rfl rfl rfl rfl (by omega) (by omega) (fun _ => ?_) (fun (q : ¬ t3 (mny nw nb W B) ≤ (k : Int)) => absurd (show t3 (mny nw nb W B) ≤ (k : Int) from by omega) q)
    refine RQ.ret rfl rfl ?_
    refine hk sc ar Same.rf Same.rf ⟨hrm, fun i i0 i1 => hd i i0 (by omega)⟩
  | m + 1, k, sc, ar, e2, hm, hM, hP, hlw, hrm, hd, hk => by
    have hn := hF.1
    have hm1 := hM.1
    have hm2 := hM.2.1
    have hB := mny_b (nw := nw) (nb := nb) (W := W) (B := B) hF.1.2.1
    have ht3 := t3_r hB
    refine RQ.seg 3 (pc' := 43) (L' := [some (.ref 80), some (.int (iI (k : Int))), e2]) (st' := [.int (iI (sc 8052)), .int (iI (k : Int))]) (g1 := (HW sc ar tx oc rl ou tl, q)) rfl ?_
    refine RQ.to (L' := [some (.ref 80), some (.int (iI (k : Int))), e2]) (st' := [.int (iI (t3 (mny nw nb W B))), .int (iI (k : Int))]) rfl (by rw [show sc 8052 = t3 (mny nw nb W B) from hrm]) ?_
    refine RQ.if2 (a := (k : Int)) (b := (t3 (mny nw nb W B))) rfl rfl rfl rfl (by omega) (by omega) (fun (q : t3 (mny nw nb W B) ≤ (k : Int)) => absurd q (show ¬ t3 (mny nw nb W B) ≤ (k : Int) from by omega)) (fun _ => ?_)
    refine RQ.seg 2 (pc' := 48) (L' := [some (.ref 80), some (.int (iI (k : Int))), e2]) (st' := [.int (iI (k : Int)), .ref 80]) (g1 := (HW sc ar tx oc rl ou tl, q)) rfl ?_
    refine RQ.callQ rfl rfl (m_takeRow (i := (k : Int)) hF hM hP (by omega)) (fun rv g1 hc => ?_)
    obtain ⟨rfl, pf, rfl, hpf⟩ := hc
    refine RQ.seg 1 (pc' := 52) (L' := [some (.ref 80), some (.int (iI (k : Int))), e2]) (st' := [.ref 80]) (g1 := (HW sc (usc ar 96 pf) tx oc rl ou tl, q)) rfl ?_
    refine RQ.callQ rfl rfl (m_judgeA (sc := sc) (ar := usc ar 96 pf) (P := PI nw nb W B (k : Int)) hF hM hpf (PI_ok hF (k : Int)) hlw hL) (fun rv g1 hc => ?_)
    obtain ⟨rfl, sc1, ar1, rfl, hJ, hs1, ha1⟩ := hc
    have hs2 : Same scF sc sc1 := hs1.w rfl
    have ha2 : Same scA ar ar1 := Same.tr (Same.us rfl Same.rf) (ha1.w rfl)
    have hM1 := hM.sm hs2 ha2
    have hq7 : ar1 107 = ar 107 := ha1 107 rfl
    have hq8 : ar1 108 = ar 108 := ha1 108 rfl
    have hq9 : ar1 109 = ar 109 := ha1 109 rfl
    have hq10 : ar1 110 = ar 110 := ha1 110 rfl
    refine RQ.seg 5 (pc' := 64) (L' := [some (.ref 80), some (.int (iI (k : Int))), e2]) (st' := [.int (iI (sc1 8047)), .int (iI (k : Int)), .ref 108]) (g1 := (HW sc1 ar1 tx oc rl ou tl, q)) rfl ?_
    refine RQ.to (L' := [some (.ref 80), some (.int (iI (k : Int))), e2]) (st' := [.int (iI (rsv nw nb W B (k : Int))), .int (iI (k : Int)), .ref 108]) rfl (by rw [show sc1 8047 = rsv nw nb W B (k : Int) from hJ.2.1.2.1]) ?_
    refine RQ.iast (z := (k : Int)) (v := (rsv nw nb W B (k : Int))) (g1 := (HW sc1 (usc ar1 108 (usz (ar1 108) (k : Int) (rsv nw nb W B (k : Int)))) tx oc rl ou tl, q)) rfl rfl rfl rfl (by omega) (by decide) (HWa_108 rfl) ?_
    refine RQ.seg 5 (pc' := 74) (L' := [some (.ref 80), some (.int (iI (k : Int))), e2]) (st' := [.int (iI (sc1 8046)), .int (iI (k : Int)), .ref 109]) (g1 := (HW sc1 (usc ar1 108 (usz (ar1 108) (k : Int) (rsv nw nb W B (k : Int)))) tx oc rl ou tl, q)) rfl ?_
    refine RQ.to (L' := [some (.ref 80), some (.int (iI (k : Int))), e2]) (st' := [.int (iI (mkb nb B (PI nw nb W B (k : Int)))), .int (iI (k : Int)), .ref 109]) rfl (by rw [show sc1 8046 = mkb nb B (PI nw nb W B (k : Int)) from hJ.2.2.1]) ?_
    refine RQ.iast (z := (k : Int)) (v := (mkb nb B (PI nw nb W B (k : Int)))) (g1 := (HW sc1 (usc (usc ar1 108 (usz (ar1 108) (k : Int) (rsv nw nb W B (k : Int)))) 109 (usz (ar1 109) (k : Int) (mkb nb B (PI nw nb W B (k : Int))))) tx oc rl ou tl, q)) rfl rfl rfl rfl (by omega) (by decide) (HWa_109 rfl) ?_
    refine RQ.seg 4 (pc' := 81) (L' := [some (.ref 80), some (.int (iI (k : Int))), e2]) (st' := [.int (iI 0), .int (iI (k : Int)), .ref 110]) (g1 := (HW sc1 (usc (usc ar1 108 (usz (ar1 108) (k : Int) (rsv nw nb W B (k : Int)))) 109 (usz (ar1 109) (k : Int) (mkb nb B (PI nw nb W B (k : Int))))) tx oc rl ou tl, q)) rfl ?_
    refine RQ.iast (z := (k : Int)) (v := 0) (g1 := (HW sc1 (usc (usc (usc ar1 108 (usz (ar1 108) (k : Int) (rsv nw nb W B (k : Int)))) 109 (usz (ar1 109) (k : Int) (mkb nb B (PI nw nb W B (k : Int))))) 110 (usz (ar1 110) (k : Int) 0)) tx oc rl ou tl, q)) rfl rfl rfl rfl (by omega) (by decide) (HWa_110 rfl) ?_
    refine RQ.seg 2 (pc' := 84) (L' := [some (.ref 80), some (.int (iI (k : Int))), some (.int (iI 0))]) (st' := []) (g1 := (HW sc1 (usc (usc (usc ar1 108 (usz (ar1 108) (k : Int) (rsv nw nb W B (k : Int)))) 109 (usz (ar1 109) (k : Int) (mkb nb B (PI nw nb W B (k : Int))))) 110 (usz (ar1 110) (k : Int) 0)) tx oc rl ou tl, q)) rfl ?_
    refine RQ.hp (g1 := (HW sc1 (usc (usc (usc (usc ar1 107 (ar1 107)) 108 (usz (ar1 108) (k : Int) (rsv nw nb W B (k : Int)))) 109 (usz (ar1 109) (k : Int) (mkb nb B (PI nw nb W B (k : Int))))) 110 (usz (ar1 110) (k : Int) 0)) tx oc rl ou tl, q)) (congrArg (fun a => (HW sc1 a tx oc rl ou tl, q)) (show usc (usc (usc ar1 108 (usz (ar1 108) (k : Int) (rsv nw nb W B (k : Int)))) 109 (usz (ar1 109) (k : Int) (mkb nb B (PI nw nb W B (k : Int))))) 110 (usz (ar1 110) (k : Int) 0) = usc (usc (usc (usc ar1 107 (ar1 107)) 108 (usz (ar1 108) (k : Int) (rsv nw nb W B (k : Int)))) 109 (usz (ar1 109) (k : Int) (mkb nb B (PI nw nb W B (k : Int))))) 110 (usz (ar1 110) (k : Int) 0) by funext j; unfold usc; cases hb : Nat.beq j 107 <;> first | rfl | (rw [Nat.eq_of_beq_eq_true hb]; rfl))) ?_
    refine m_ly_b (sc := sc1) (ar := ar1) (f0 := ar1 107) (g0 := ar1 110) hF hM1 (by omega) hJ (fun f g r1 r2 r3 r4 => ?_) nb.toNat 0 _ _ (by omega) (fun c c0 c1 => absurd c1 (by omega)) (fun z _ => rfl) (usz_s _ _ _) (fun z hz => usz_n hz)
    refine RQ.seg 2 (pc' := 38) (L' := [some (.ref 80), some (.int ((iI (k : Int)) + (iI 1))), some (.int (iI nb))]) (st' := []) (g1 := (HW sc1 (usc (usc (usc (usc ar1 107 f) 108 (usz (ar1 108) (k : Int) (rsv nw nb W B (k : Int)))) 109 (usz (ar1 109) (k : Int) (mkb nb B (PI nw nb W B (k : Int))))) 110 g) tx oc rl ou tl, q)) rfl ?_
    refine RQ.to (L' := [some (.ref 80), some (.int (iI ((k : Int) + 1))), some (.int (iI nb))]) (st' := []) (by simp only [iI_add, iI_sub, iI_mul, iI_neg]) rfl ?_
    refine m_ly_k hF hL m (k + 1) sc1 (usc (usc (usc (usc ar1 107 f) 108 (usz (ar1 108) (k : Int) (rsv nw nb W B (k : Int)))) 109 (usz (ar1 109) (k : Int) (mkb nb B (PI nw nb W B (k : Int))))) 110 g) _ (by omega) hM1 (show PMx nw nb W B (ar1 94) (ar1 95) by rw [ha2 94 rfl, ha2 95 rfl]; exact hP) (fun j h0 h1 => (congrFun (ha2 87 rfl) j).trans (hlw j h0 h1)) ((hs1 8052 rfl).trans hrm) (fun i i0 i1 => ?_) (fun sc' ar' q1 q2 q3 => hk sc' ar' (hs2.tr q1) (Same.tr ha2 (Same.tr (by repeat (first | exact Same.rf | refine Same.us rfl ?_)) q2)) q3)
    by_cases e : i = (k : Int)
    · subst e; exact ⟨usz_s _ _ _, usz_s _ _ _, r3, r1⟩
    · obtain ⟨q1, q2, q3, q4⟩ := hd i i0 (by omega)
      refine ⟨(usz_n e).trans ((congrFun hq8 i).trans q1), (usz_n e).trans ((congrFun hq9 i).trans q2), (r4 i e).trans ((congrFun hq10 i).trans q3), fun b b0 b1 => (r2 _ (by omega)).trans ((congrFun hq7 _).trans (q4 b b0 b1))⟩
theorem m_layRows {K : PK} {d : Nat} {sc : Nat → Int} {ar : Nat → Int → Int} {tx oc : Nat} {rl : Nat → Option Nat} {ou : Nat → Int64} {tl : List PO} {q : Nat × Nat} {nw nb : Int} {W B : Int → Int → Int} (hF : FrOK nw nb W B) (hM : FrM (sc 8024) (sc 8025) (ar 85) (ar 86) nw nb W B) (hP : PMx nw nb W B (ar 94) (ar 95)) {law : Int → Int} (hlw : ∀ j, 0 ≤ j → j < 4 → ar 87 j = law j) (hL : LwOK law) : CQ K (d + 4) 207 [.ref 80] (HW sc ar tx oc rl ou tl, q) (fun r g' => r = none ∧ ∃ sc' ar', g' = (HW sc' ar' tx oc rl ou tl, q) ∧ Same scF sc sc' ∧ Same scA ar ar' ∧ LyR nw nb W B law sc' ar') := by
  have hn := hF.1
  have hm1 := hM.1
  have hm2 := hM.2.1
  have hB := mny_b (nw := nw) (nb := nb) (W := W) (B := B) hF.1.2.1
  have ht3 := t3_r hB
  refine CQ.of (own := 11) (n := 3) (ini := false) (rt := none) (cd := cd207) (by decide +kernel) rfl (by decide +kernel) rfl (Nat.le_of_ble_eq_true rfl) ?_
  refine RQ.seg 8 (pc' := 12) (L' := [some (.ref 80), some (.int (iI 0)), none]) (st' := [.int (iI (sc 8025)), .int (iI 0)]) (g1 := (HW (usc sc 8052 1) ar tx oc rl ou tl, q)) rfl ?_
  refine RQ.if2 (a := 0) (b := (sc 8025)) rfl rfl rfl rfl (by omega) (by omega) (fun (h1 : sc 8025 ≤ 0) => ?_) (fun (h1 : ¬ sc 8025 ≤ 0) => ?_)
  · skip
    refine RQ.seg 2 (pc' := 38) (L' := [some (.ref 80), some (.int (iI 0)), none]) (st' := []) (g1 := (HW (usc sc 8052 1) ar tx oc rl ou tl, q)) rfl ?_
    have e8 : 1 = t3 (mny nw nb W B) := by unfold t3; first | (rw [Int.one_mul]; done) | (rw [mny_f (b := 2) (by omega), Int.mul_one, Int.one_mul]; done) | (rw [mny_f (b := 1) (by omega), mny_f (b := 2) (by omega), Int.mul_one, Int.mul_one, Int.one_mul]; done) | (rw [mny_f (b := 0) (by omega), mny_f (b := 1) (by omega), mny_f (b := 2) (by omega)]; rfl)
    rw [e8]
    refine m_ly_k hF hL (t3 (mny nw nb W B)).toNat 0 (usc sc 8052 (t3 (mny nw nb W B))) ar _ (by omega) hM hP hlw rfl (fun i i0 i1 => absurd i1 (by omega)) (fun sc' ar' q1 q2 q3 => ⟨rfl, sc', ar', rfl, Same.tr (Same.us rfl Same.rf) q1, q2, q3⟩)
  · skip
    refine RQ.seg 6 (pc' := 25) (L' := [some (.ref 80), some (.int (iI 0)), none]) (st' := [.int (iI 0), .ref 95, .int (iI 1), .ref 80]) (g1 := (HW (usc sc 8052 1) ar tx oc rl ou tl, q)) rfl ?_
    refine RQ.ialdv (z := 0) (v := (mny nw nb W B 0)) rfl rfl rfl (by omega) (by decide) ((hP 0 (by omega) (by omega)).1.trans (mny_t (by omega)).symm) ?_
    refine RQ.seg 1 (pc' := 27) (L' := [some (.ref 80), some (.int (iI 0)), none]) (st' := [.int ((iI 1) * (iI (mny nw nb W B 0))), .ref 80]) (g1 := (HW (usc sc 8052 1) ar tx oc rl ou tl, q)) rfl ?_
    refine RQ.to (L' := [some (.ref 80), some (.int (iI 0)), none]) (st' := [.int (iI (1 * (mny nw nb W B 0))), .ref 80]) rfl (by simp only [iI_add, iI_sub, iI_mul, iI_neg]) ?_
    refine RQ.seg 6 (pc' := 12) (L' := [some (.ref 80), some (.int (iI 1)), none]) (st' := [.int (iI (sc 8025)), .int (iI 1)]) (g1 := (HW (usc sc 8052 (1 * (mny nw nb W B 0))) ar tx oc rl ou tl, q)) rfl ?_
    refine RQ.if2 (a := 1) (b := (sc 8025)) rfl rfl rfl rfl (by omega) (by omega) (fun (h2 : sc 8025 ≤ 1) => ?_) (fun (h2 : ¬ sc 8025 ≤ 1) => ?_)
    · skip
      refine RQ.seg 2 (pc' := 38) (L' := [some (.ref 80), some (.int (iI 0)), none]) (st' := []) (g1 := (HW (usc sc 8052 (1 * (mny nw nb W B 0))) ar tx oc rl ou tl, q)) rfl ?_
      have e8 : 1 * (mny nw nb W B 0) = t3 (mny nw nb W B) := by unfold t3; first | (rw [Int.one_mul]; done) | (rw [mny_f (b := 2) (by omega), Int.mul_one, Int.one_mul]; done) | (rw [mny_f (b := 1) (by omega), mny_f (b := 2) (by omega), Int.mul_one, Int.mul_one, Int.one_mul]; done) | (rw [mny_f (b := 0) (by omega), mny_f (b := 1) (by omega), mny_f (b := 2) (by omega)]; rfl)
      rw [e8]
      refine m_ly_k hF hL (t3 (mny nw nb W B)).toNat 0 (usc sc 8052 (t3 (mny nw nb W B))) ar _ (by omega) hM hP hlw rfl (fun i i0 i1 => absurd i1 (by omega)) (fun sc' ar' q1 q2 q3 => ⟨rfl, sc', ar', rfl, Same.tr (Same.us rfl Same.rf) q1, q2, q3⟩)
    · skip
      refine RQ.seg 6 (pc' := 25) (L' := [some (.ref 80), some (.int (iI 1)), none]) (st' := [.int (iI 1), .ref 95, .int (iI (1 * (mny nw nb W B 0))), .ref 80]) (g1 := (HW (usc sc 8052 (1 * (mny nw nb W B 0))) ar tx oc rl ou tl, q)) rfl ?_
      refine RQ.ialdv (z := 1) (v := (mny nw nb W B 1)) rfl rfl rfl (by omega) (by decide) ((hP 1 (by omega) (by omega)).1.trans (mny_t (by omega)).symm) ?_
      refine RQ.seg 1 (pc' := 27) (L' := [some (.ref 80), some (.int (iI 1)), none]) (st' := [.int ((iI (1 * (mny nw nb W B 0))) * (iI (mny nw nb W B 1))), .ref 80]) (g1 := (HW (usc sc 8052 (1 * (mny nw nb W B 0))) ar tx oc rl ou tl, q)) rfl ?_
      refine RQ.to (L' := [some (.ref 80), some (.int (iI 1)), none]) (st' := [.int (iI ((1 * (mny nw nb W B 0)) * (mny nw nb W B 1))), .ref 80]) rfl (by simp only [iI_add, iI_sub, iI_mul, iI_neg]) ?_
      refine RQ.seg 6 (pc' := 12) (L' := [some (.ref 80), some (.int (iI 2)), none]) (st' := [.int (iI (sc 8025)), .int (iI 2)]) (g1 := (HW (usc sc 8052 ((1 * (mny nw nb W B 0)) * (mny nw nb W B 1))) ar tx oc rl ou tl, q)) rfl ?_
      refine RQ.if2 (a := 2) (b := (sc 8025)) rfl rfl rfl rfl (by omega) (by omega) (fun (h3 : sc 8025 ≤ 2) => ?_) (fun (h3 : ¬ sc 8025 ≤ 2) => ?_)
      · skip
        refine RQ.seg 2 (pc' := 38) (L' := [some (.ref 80), some (.int (iI 0)), none]) (st' := []) (g1 := (HW (usc sc 8052 ((1 * (mny nw nb W B 0)) * (mny nw nb W B 1))) ar tx oc rl ou tl, q)) rfl ?_
        have e8 : (1 * (mny nw nb W B 0)) * (mny nw nb W B 1) = t3 (mny nw nb W B) := by unfold t3; first | (rw [Int.one_mul]; done) | (rw [mny_f (b := 2) (by omega), Int.mul_one, Int.one_mul]; done) | (rw [mny_f (b := 1) (by omega), mny_f (b := 2) (by omega), Int.mul_one, Int.mul_one, Int.one_mul]; done) | (rw [mny_f (b := 0) (by omega), mny_f (b := 1) (by omega), mny_f (b := 2) (by omega)]; rfl)
        rw [e8]
        refine m_ly_k hF hL (t3 (mny nw nb W B)).toNat 0 (usc sc 8052 (t3 (mny nw nb W B))) ar _ (by omega) hM hP hlw rfl (fun i i0 i1 => absurd i1 (by omega)) (fun sc' ar' q1 q2 q3 => ⟨rfl, sc', ar', rfl, Same.tr (Same.us rfl Same.rf) q1, q2, q3⟩)
      · skip
        refine RQ.seg 6 (pc' := 25) (L' := [some (.ref 80), some (.int (iI 2)), none]) (st' := [.int (iI 2), .ref 95, .int (iI ((1 * (mny nw nb W B 0)) * (mny nw nb W B 1))), .ref 80]) (g1 := (HW (usc sc 8052 ((1 * (mny nw nb W B 0)) * (mny nw nb W B 1))) ar tx oc rl ou tl, q)) rfl ?_
        refine RQ.ialdv (z := 2) (v := (mny nw nb W B 2)) rfl rfl rfl (by omega) (by decide) ((hP 2 (by omega) (by omega)).1.trans (mny_t (by omega)).symm) ?_
        refine RQ.seg 1 (pc' := 27) (L' := [some (.ref 80), some (.int (iI 2)), none]) (st' := [.int ((iI ((1 * (mny nw nb W B 0)) * (mny nw nb W B 1))) * (iI (mny nw nb W B 2))), .ref 80]) (g1 := (HW (usc sc 8052 ((1 * (mny nw nb W B 0)) * (mny nw nb W B 1))) ar tx oc rl ou tl, q)) rfl ?_
        refine RQ.to (L' := [some (.ref 80), some (.int (iI 2)), none]) (st' := [.int (iI (((1 * (mny nw nb W B 0)) * (mny nw nb W B 1)) * (mny nw nb W B 2))), .ref 80]) rfl (by simp only [iI_add, iI_sub, iI_mul, iI_neg]) ?_
        refine RQ.seg 6 (pc' := 12) (L' := [some (.ref 80), some (.int (iI 3)), none]) (st' := [.int (iI (sc 8025)), .int (iI 3)]) (g1 := (HW (usc sc 8052 (((1 * (mny nw nb W B 0)) * (mny nw nb W B 1)) * (mny nw nb W B 2))) ar tx oc rl ou tl, q)) rfl ?_
        refine RQ.if2 (a := 3) (b := (sc 8025)) rfl rfl rfl rfl (by omega) (by omega) (fun _ => ?_) (fun (q : ¬ sc 8025 ≤ 3) => absurd (show sc 8025 ≤ 3 from by omega) q)
        refine RQ.seg 2 (pc' := 38) (L' := [some (.ref 80), some (.int (iI 0)), none]) (st' := []) (g1 := (HW (usc sc 8052 (((1 * (mny nw nb W B 0)) * (mny nw nb W B 1)) * (mny nw nb W B 2))) ar tx oc rl ou tl, q)) rfl ?_
        have e8 : ((1 * (mny nw nb W B 0)) * (mny nw nb W B 1)) * (mny nw nb W B 2) = t3 (mny nw nb W B) := by unfold t3; first | (rw [Int.one_mul]; done) | (rw [mny_f (b := 2) (by omega), Int.mul_one, Int.one_mul]; done) | (rw [mny_f (b := 1) (by omega), mny_f (b := 2) (by omega), Int.mul_one, Int.mul_one, Int.one_mul]; done) | (rw [mny_f (b := 0) (by omega), mny_f (b := 1) (by omega), mny_f (b := 2) (by omega)]; rfl)
        rw [e8]
        refine m_ly_k hF hL (t3 (mny nw nb W B)).toNat 0 (usc sc 8052 (t3 (mny nw nb W B))) ar _ (by omega) hM hP hlw rfl (fun i i0 i1 => absurd i1 (by omega)) (fun sc' ar' q1 q2 q3 => ⟨rfl, sc', ar', rfl, Same.tr (Same.us rfl Same.rf) q1, q2, q3⟩)
