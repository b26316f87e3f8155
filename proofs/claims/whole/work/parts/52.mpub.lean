/-! rests, most, loss, laws, bribe of the reference, by wip/tools -/
/-! rests, most, loss, laws, bribe of the reference -/
def lwA : List Nat := 87 :: scA
theorem lw_up {f law : Int → Int} (h : ∀ j, 0 ≤ j → j < 4 → j ≠ 3 → f j = law j) (q : Int) : ∀ j, 0 ≤ j → j < 4 → usz f 3 q j = lwq law q j := by
  intro j h0 h1
  unfold lwq
  by_cases e : j = 3
  · subst e; rw [usz_s, usz_s]
  · rw [usz_n e, usz_n e]; exact h j h0 h1 e
theorem Same.un {α : Type} {l : List Nat} {f g : Nat → α} {k : Nat} (h : Same (k :: l) f g) (hk : g k = f k) : Same l f g := by
  intro j hj
  by_cases e : j = k
  · subst e; exact hk
  · refine h j ?_
    rw [List.elem_cons, hj, beq_false_of_ne e]
theorem lwq_self {law : Int → Int} : lwq law (law 3) = law := by
  funext j
  unfold lwq
  by_cases e : j = 3
  · subst e; rw [usz_s]
  · rw [usz_n e]
theorem m_rs_l {K : PK} {d : Nat} {sc : Nat → Int} {ar : Nat → Int → Int} {tx oc : Nat} {rl : Nat → Option Nat} {ou : Nat → Int64} {tl : List PO} {q : Nat × Nat} {Q : Option Value → PG → Prop} {i : Int} {nw nb : Int} {W B : Int → Int → Int} (hF : FrOK nw nb W B) (hM : FrM (sc 8024) (sc 8025) (ar 85) (ar 86) nw nb W B) (hP : PMx nw nb W B (ar 94) (ar 95)) {law : Int → Int} (hD : LyR nw nb W B law sc ar) (hL : LwOK law) (ri : -2147483648 ≤ i ∧ i < 2147483648) : ∀ (m : Nat) (k s : Int) (hm : 0 ≤ k ∧ k + m = t3 (mny nw nb W B)) (hs : 0 ≤ s ∧ s ≤ k) (hk : ∀ ar', Same scA ar ar' → Q (some (.int (iI (pik (rsf nw nb W B law) (fun k => rnm (PI nw nb W B k) nb.toNat) i m k s)))) (HW sc ar' tx oc rl ou tl, q)), RQ K (d + 4) 11 false (some .int) cd209 27 [some (.ref 80), some (.int (iI i)), some (.int (iI s)), some (.int (iI k))] [] (HW sc ar tx oc rl ou tl, q) Q
  | 0, k, s, hm, hs, hk => by
    have hn := hF.1
    have hm1 := hM.1
    have hm2 := hM.2.1
    have hB := mny_b (nw := nw) (nb := nb) (W := W) (B := B) hF.1.2.1
    have ht3 := t3_r hB
    have hrm : sc 8052 = t3 (mny nw nb W B) := hD.1
    have hrs := rsf_r (nw := nw) (nb := nb) (W := W) (B := B) law k
    refine RQ.seg 3 (pc' := 32) (L' := [some (.ref 80), some (.int (iI i)), some (.int (iI s)), some (.int (iI k))]) (st' := [.int (iI (sc 8052)), .int (iI k)]) (g1 := (HW sc ar tx oc rl ou tl, q)) rfl ?_
    refine RQ.to (L' := [some (.ref 80), some (.int (iI i)), some (.int (iI s)), some (.int (iI k))]) (st' := [.int (iI (t3 (mny nw nb W B))), .int (iI k)]) rfl (by rw [show sc 8052 = t3 (mny nw nb W B) from hrm]) ?_
    refine RQ.if2 (a := k) (b := (t3 (mny nw nb W B))) rfl rfl rfl rfl (by omega) (by omega) (fun _ => ?_) (fun (q : ¬ t3 (mny nw nb W B) ≤ k) => absurd (show t3 (mny nw nb W B) ≤ k from by omega) q)
    refine RQ.seg 2 (pc' := 68) (L' := [some (.ref 80), some (.int (iI i)), some (.int (iI s)), some (.int (iI k))]) (st' := [.int (iI (-1)), .int (iI i)]) (g1 := (HW sc ar tx oc rl ou tl, q)) rfl ?_
    refine RQ.if2 (a := i) (b := (-1)) rfl rfl rfl rfl (by omega) (by omega) (fun (h2 : i ≠ (-1)) => ?_) (fun (h2 : ¬ i ≠ (-1)) => ?_)
    · skip
      refine RQ.seg 1 (pc' := 76) (L' := [some (.ref 80), some (.int (iI i)), some (.int (iI s)), some (.int (iI k))]) (st' := [.int (iI (-1))]) (g1 := (HW sc ar tx oc rl ou tl, q)) rfl ?_
      refine RQ.ret rfl rfl ?_
      rw [pik] at hk
      first | (rw [if_pos (by omega)] at hk; exact hk ar Same.rf) | (rw [if_neg (by omega)] at hk; exact hk ar Same.rf)
    · skip
      refine RQ.seg 2 (pc' := 76) (L' := [some (.ref 80), some (.int (iI i)), some (.int (iI s)), some (.int (iI k))]) (st' := [.int (iI s)]) (g1 := (HW sc ar tx oc rl ou tl, q)) rfl ?_
      refine RQ.ret rfl rfl ?_
      rw [pik] at hk
      first | (rw [if_pos (by omega)] at hk; exact hk ar Same.rf) | (rw [if_neg (by omega)] at hk; exact hk ar Same.rf)
  | m + 1, k, s, hm, hs, hk => by
    have hn := hF.1
    have hm1 := hM.1
    have hm2 := hM.2.1
    have hB := mny_b (nw := nw) (nb := nb) (W := W) (B := B) hF.1.2.1
    have ht3 := t3_r hB
    have hrm : sc 8052 = t3 (mny nw nb W B) := hD.1
    have hrs := rsf_r (nw := nw) (nb := nb) (W := W) (B := B) law k
    refine RQ.seg 3 (pc' := 32) (L' := [some (.ref 80), some (.int (iI i)), some (.int (iI s)), some (.int (iI k))]) (st' := [.int (iI (sc 8052)), .int (iI k)]) (g1 := (HW sc ar tx oc rl ou tl, q)) rfl ?_
    refine RQ.to (L' := [some (.ref 80), some (.int (iI i)), some (.int (iI s)), some (.int (iI k))]) (st' := [.int (iI (t3 (mny nw nb W B))), .int (iI k)]) rfl (by rw [show sc 8052 = t3 (mny nw nb W B) from hrm]) ?_
    refine RQ.if2 (a := k) (b := (t3 (mny nw nb W B))) rfl rfl rfl rfl (by omega) (by omega) (fun (q : t3 (mny nw nb W B) ≤ k) => absurd q (show ¬ t3 (mny nw nb W B) ≤ k from by omega)) (fun _ => ?_)
    refine RQ.seg 2 (pc' := 37) (L' := [some (.ref 80), some (.int (iI i)), some (.int (iI s)), some (.int (iI k))]) (st' := [.int (iI k), .ref 80]) (g1 := (HW sc ar tx oc rl ou tl, q)) rfl ?_
    refine RQ.call rfl rfl (m_isRest (i := k) hF hM hP hD hL (by omega)) ?_
    rcases (show rsf nw nb W B law k = 1 ∨ rsf nw nb W B law k = 0 by omega) with h5 | h5
    · skip
      rw [h5]
      rw [pik, if_pos h5] at hk
      refine RQ.seg 3 (pc' := 48) (L' := [some (.ref 80), some (.int (iI i)), some (.int (iI s)), some (.int (iI k))]) (st' := [.int (iI i), .int (iI s)]) (g1 := (HW sc ar tx oc rl ou tl, q)) rfl ?_
      refine RQ.if2 (a := s) (b := i) rfl rfl rfl rfl (by omega) (by omega) (fun (h2 : s ≠ i) => ?_) (fun (h2 : ¬ s ≠ i) => ?_)
      · skip
        refine RQ.seg 3 (pc' := 27) (L' := [some (.ref 80), some (.int (iI i)), some (.int ((iI s) + (iI 1))), some (.int ((iI k) + (iI 1)))]) (st' := []) (g1 := (HW sc ar tx oc rl ou tl, q)) rfl ?_
        refine RQ.to (L' := [some (.ref 80), some (.int (iI i)), some (.int (iI (s + 1))), some (.int (iI (k + 1)))]) (st' := []) (by simp only [iI_add, iI_sub, iI_mul, iI_neg]) rfl ?_
        rw [if_neg (by omega)] at hk
        exact m_rs_l hF hM hP hD hL ri m (k + 1) (s + 1) (by omega) (by omega) hk
      · skip
        refine RQ.seg 2 (pc' := 53) (L' := [some (.ref 80), some (.int (iI i)), some (.int (iI s)), some (.int (iI k))]) (st' := [.int (iI k), .ref 80]) (g1 := (HW sc ar tx oc rl ou tl, q)) rfl ?_
        rw [if_pos (by omega)] at hk
        refine RQ.callQ rfl rfl (m_numberOf (i := k) hF hM hP (by omega)) (fun rv g1 hc => ?_)
        obtain ⟨rfl, pf, rfl⟩ := hc
        refine RQ.ret rfl rfl ?_
        exact hk _ (Same.us rfl Same.rf)
    · skip
      rw [h5]
      rw [pik, if_neg (by omega)] at hk
      refine RQ.seg 4 (pc' := 27) (L' := [some (.ref 80), some (.int (iI i)), some (.int (iI s)), some (.int ((iI k) + (iI 1)))]) (st' := []) (g1 := (HW sc ar tx oc rl ou tl, q)) rfl ?_
      refine RQ.to (L' := [some (.ref 80), some (.int (iI i)), some (.int (iI s)), some (.int (iI (k + 1)))]) (st' := []) (by simp only [iI_add, iI_sub, iI_mul, iI_neg]) rfl ?_
      exact m_rs_l hF hM hP hD hL ri m (k + 1) s (by omega) (by omega) hk
theorem m_rests {K : PK} {d : Nat} {sc : Nat → Int} {ar : Nat → Int → Int} {tx oc : Nat} {rl : Nat → Option Nat} {ou : Nat → Int64} {tl : List PO} {q : Nat × Nat} {i : Int} {nw nb : Int} {W B : Int → Int → Int} (hF : FrOK nw nb W B) (hM : FrM (sc 8024) (sc 8025) (ar 85) (ar 86) nw nb W B) (hP : PMx nw nb W B (ar 94) (ar 95)) {law : Int → Int} (hlw : ∀ j, 0 ≤ j → j < 4 → ar 87 j = law j) (hL : LwOK law) (ri : -2147483648 ≤ i ∧ i < 2147483648) : CQ K (d + 6) 209 [.ref 80, .int (iI i)] (HW sc ar tx oc rl ou tl, q) (fun r g' => r = some (.int (iI (sRests nw nb W B law i))) ∧ ∃ sc' ar', g' = (HW sc' ar' tx oc rl ou tl, q) ∧ Same scF sc sc' ∧ Same scA ar ar') := by
  have hn := hF.1
  have hm1 := hM.1
  have hm2 := hM.2.1
  have hB := mny_b (nw := nw) (nb := nb) (W := W) (B := B) hF.1.2.1
  have ht3 := t3_r hB
  refine CQ.of (own := 11) (n := 4) (ini := false) (rt := (some .int)) (cd := cd209) (by decide +kernel) rfl (by decide +kernel) rfl (Nat.le_of_ble_eq_true rfl) ?_
  refine RQ.seg 5 (pc' := 9) (L' := [some (.ref 80), some (.int (iI i)), none, none]) (st' := [.int (iI (sc 8025))]) (g1 := (HW (usc sc 8000 0) ar tx oc rl ou tl, q)) rfl ?_
  refine RQ.if1 (a := (sc 8025)) rfl rfl rfl (by omega) (fun (h1 : sc 8025 = 0) => ?_) (fun (h1 : ¬ sc 8025 = 0) => ?_)
  · skip
    refine RQ.seg 1 (pc' := 18) (L' := [some (.ref 80), some (.int (iI i)), none, none]) (st' := [.int (iI (-1))]) (g1 := (HW (usc sc 8000 0) ar tx oc rl ou tl, q)) rfl ?_
    refine RQ.ret rfl rfl ?_
    refine ⟨?_, _, _, rfl, (by repeat (first | exact Same.rf | refine Same.us rfl ?_)), (by repeat (first | exact Same.rf | refine Same.us rfl ?_))⟩
    congr 3; unfold sRests; first | (rw [if_neg (by omega)]; done) | (rw [if_pos (by omega), pik_lo (by omega) _ _ _ (by omega)])
  · skip
    refine RQ.seg 2 (pc' := 14) (L' := [some (.ref 80), some (.int (iI i)), none, none]) (st' := [.int (iI (-1)), .int (iI i)]) (g1 := (HW (usc sc 8000 0) ar tx oc rl ou tl, q)) rfl ?_
    refine RQ.if2 (a := i) (b := (-1)) rfl rfl rfl rfl (by omega) (by omega) (fun (h2 : (-1) ≤ i) => ?_) (fun (h2 : ¬ (-1) ≤ i) => ?_)
    · skip
      refine RQ.seg 1 (pc' := 20) (L' := [some (.ref 80), some (.int (iI i)), none, none]) (st' := [.ref 80]) (g1 := (HW (usc sc 8000 0) ar tx oc rl ou tl, q)) rfl ?_
      refine RQ.callQ rfl rfl ((m_layRows (d := 0) (sc := usc sc 8000 0) (ar := ar) hF hM hP hlw hL).up (by omega)) (fun rv g1 hc => ?_)
      obtain ⟨rfl, sc1, ar1, rfl, hs1, ha1, hD⟩ := hc
      have hM1 := hM.sm hs1 ha1
      have hP1 : PMx nw nb W B (ar1 94) (ar1 95) := by rw [ha1 94 rfl, ha1 95 rfl]; exact hP
      have hrm : sc1 8052 = t3 (mny nw nb W B) := hD.1
      refine RQ.seg 4 (pc' := 27) (L' := [some (.ref 80), some (.int (iI i)), some (.int (iI 0)), some (.int (iI 0))]) (st' := []) (g1 := (HW sc1 ar1 tx oc rl ou tl, q)) rfl ?_
      refine m_rs_l hF hM1 hP1 hD hL ri (t3 (mny nw nb W B)).toNat 0 0 (by omega) (by omega) (fun ar' h1 => ⟨?_, _, _, rfl, (Same.tr (Same.us rfl Same.rf) hs1), ha1.tr h1⟩)
      congr 3; unfold sRests; rw [if_pos (by omega)]
    · skip
      refine RQ.seg 1 (pc' := 18) (L' := [some (.ref 80), some (.int (iI i)), none, none]) (st' := [.int (iI (-1))]) (g1 := (HW (usc sc 8000 0) ar tx oc rl ou tl, q)) rfl ?_
      refine RQ.ret rfl rfl ?_
      refine ⟨?_, _, _, rfl, (by repeat (first | exact Same.rf | refine Same.us rfl ?_)), (by repeat (first | exact Same.rf | refine Same.us rfl ?_))⟩
      congr 3; unfold sRests; first | (rw [if_neg (by omega)]; done) | (rw [if_pos (by omega), pik_lo (by omega) _ _ _ (by omega)])
theorem m_most {K : PK} {d : Nat} {sc : Nat → Int} {ar : Nat → Int → Int} {tx oc : Nat} {rl : Nat → Option Nat} {ou : Nat → Int64} {tl : List PO} {q : Nat × Nat} {j : Int} {nw nb : Int} {W B : Int → Int → Int} (hF : FrOK nw nb W B) (hM : FrM (sc 8024) (sc 8025) (ar 85) (ar 86) nw nb W B) (hP : PMx nw nb W B (ar 94) (ar 95)) {law : Int → Int} (hlw : ∀ j, 0 ≤ j → j < 4 → ar 87 j = law j) (hL : LwOK law) (rj : -2147483648 ≤ j ∧ j < 2147483648) : CQ K (d + 6) 211 [.ref 80, .int (iI j)] (HW sc ar tx oc rl ou tl, q) (fun r g' => r = some (.int (iI (sMost nw nb W B j))) ∧ ∃ sc' ar', g' = (HW sc' ar' tx oc rl ou tl, q) ∧ Same scF sc sc' ∧ Same scA ar ar') := by
  have hn := hF.1
  have hm1 := hM.1
  have hm2 := hM.2.1
  have hB := mny_b (nw := nw) (nb := nb) (W := W) (B := B) hF.1.2.1
  have ht3 := t3_r hB
  refine CQ.of (own := 11) (n := 3) (ini := false) (rt := (some .int)) (cd := cd211) (by decide +kernel) rfl (by decide +kernel) rfl (Nat.le_of_ble_eq_true rfl) ?_
  refine RQ.seg 5 (pc' := 9) (L' := [some (.ref 80), some (.int (iI j)), none]) (st' := [.int (iI (sc 8025))]) (g1 := (HW (usc sc 8000 0) ar tx oc rl ou tl, q)) rfl ?_
  refine RQ.if1 (a := (sc 8025)) rfl rfl rfl (by omega) (fun (h1 : sc 8025 = 0) => ?_) (fun (h1 : ¬ sc 8025 = 0) => ?_)
  · skip
    refine RQ.seg 1 (pc' := 23) (L' := [some (.ref 80), some (.int (iI j)), none]) (st' := [.int (iI (-1))]) (g1 := (HW (usc sc 8000 0) ar tx oc rl ou tl, q)) rfl ?_
    refine RQ.ret rfl rfl ?_
    refine ⟨?_, _, _, rfl, (by repeat (first | exact Same.rf | refine Same.us rfl ?_)), (by repeat (first | exact Same.rf | refine Same.us rfl ?_))⟩
    first | (exfalso; omega) | (congr 3; unfold sMost; (repeat (first | rw [if_pos (by omega)] | rw [if_neg (by omega)])); done)
  · skip
    refine RQ.seg 1 (pc' := 13) (L' := [some (.ref 80), some (.int (iI j)), none]) (st' := [.int (iI j)]) (g1 := (HW (usc sc 8000 0) ar tx oc rl ou tl, q)) rfl ?_
    refine RQ.seg 1 (pc' := 14) (L' := [some (.ref 80), some (.int (iI j)), none]) (st' := [.long ((iI j).toInt64)]) (g1 := (HW (usc sc 8000 0) ar tx oc rl ou tl, q)) rfl ?_
    refine RQ.to (L' := [some (.ref 80), some (.int (iI j)), none]) (st' := [.long (lL j)]) rfl (by rw [iI_64 (by omega)]) ?_
    refine RQ.seg 2 (pc' := 16) (L' := [some (.ref 80), some (.int (iI j)), none]) (st' := [.long (lL 1), .long (lL 0), .long (lL j)]) (g1 := (HW (usc sc 8000 0) ar tx oc rl ou tl, q)) rfl ?_
    rcases Decidable.em (0 ≤ j ∧ j ≤ 1) with h2 | h2
    · skip
      refine RQ.call rfl rfl (m_isIn_t (by omega) (by omega) (by omega) h2) ?_
      refine RQ.seg 2 (pc' := 25) (L' := [some (.ref 80), some (.int (iI j)), none]) (st' := [.ref 80]) (g1 := (HW (usc sc 8000 0) ar tx oc rl ou tl, q)) rfl ?_
      refine RQ.callQ rfl rfl ((m_layRows (d := 0) (sc := usc sc 8000 0) (ar := ar) hF hM hP hlw hL).up (by omega)) (fun rv g1 hc => ?_)
      obtain ⟨rfl, sc1, ar1, rfl, hs1, ha1, hD⟩ := hc
      have hM1 := hM.sm hs1 ha1
      have hP1 : PMx nw nb W B (ar1 94) (ar1 95) := by rw [ha1 94 rfl, ha1 95 rfl]; exact hP
      have hrm : sc1 8052 = t3 (mny nw nb W B) := hD.1
      refine RQ.seg 1 (pc' := 29) (L' := [some (.ref 80), some (.int (iI j)), none]) (st' := [.ref 80]) (g1 := (HW sc1 ar1 tx oc rl ou tl, q)) rfl ?_
      have ham := amx_r (rsv nw nb W B) (t3 (mny nw nb W B)).toNat
      refine RQ.call rfl rfl (CallR.up (d := 1) (m_mostRow (d := 0) hF hM1 hD) (by omega)) ?_
      refine RQ.seg 2 (pc' := 34) (L' := [some (.ref 80), some (.int (iI j)), some (.int (iI (amx (rsv nw nb W B) (t3 (mny nw nb W B)).toNat)))]) (st' := [.int (iI j)]) (g1 := (HW sc1 ar1 tx oc rl ou tl, q)) rfl ?_
      refine RQ.if1 (a := j) rfl rfl rfl (by omega) (fun (h3 : j ≠ 0) => ?_) (fun (h3 : ¬ j ≠ 0) => ?_)
      · skip
        refine RQ.seg 3 (pc' := 50) (L' := [some (.ref 80), some (.int (iI j)), some (.int (iI (amx (rsv nw nb W B) (t3 (mny nw nb W B)).toNat)))]) (st' := [.int (iI (amx (rsv nw nb W B) (t3 (mny nw nb W B)).toNat)), .ref 108]) (g1 := (HW sc1 ar1 tx oc rl ou tl, q)) rfl ?_
        refine RQ.ialdv (z := (amx (rsv nw nb W B) (t3 (mny nw nb W B)).toNat)) (v := (rsv nw nb W B (amx (rsv nw nb W B) (t3 (mny nw nb W B)).toNat))) rfl rfl rfl (by omega) (by decide) (hD.2 (amx (rsv nw nb W B) (t3 (mny nw nb W B)).toNat) (by omega) (by omega)).1 ?_
        refine RQ.ret rfl rfl ?_
        refine ⟨?_, _, _, rfl, (Same.tr (Same.us rfl Same.rf) hs1), ha1⟩
        first | (exfalso; omega) | (congr 3; unfold sMost; (repeat (first | rw [if_pos (by omega)] | rw [if_neg (by omega)])); done)
      · skip
        refine RQ.seg 2 (pc' := 39) (L' := [some (.ref 80), some (.int (iI j)), some (.int (iI (amx (rsv nw nb W B) (t3 (mny nw nb W B)).toNat)))]) (st' := [.int (iI (amx (rsv nw nb W B) (t3 (mny nw nb W B)).toNat)), .ref 80]) (g1 := (HW sc1 ar1 tx oc rl ou tl, q)) rfl ?_
        refine RQ.callQ rfl rfl ((m_numberOf (d := 0) (i := amx (rsv nw nb W B) (t3 (mny nw nb W B)).toNat) hF hM1 hP1 (by omega)).up (by omega)) (fun rv g1 hc => ?_)
        obtain ⟨rfl, pf, rfl⟩ := hc
        refine RQ.seg 1 (pc' := 51) (L' := [some (.ref 80), some (.int (iI j)), some (.int (iI (amx (rsv nw nb W B) (t3 (mny nw nb W B)).toNat)))]) (st' := [.int (iI (rnm (PI nw nb W B (amx (rsv nw nb W B) (t3 (mny nw nb W B)).toNat)) nb.toNat))]) (g1 := (HW sc1 (usc ar1 96 pf) tx oc rl ou tl, q)) rfl ?_
        refine RQ.ret rfl rfl ?_
        refine ⟨?_, _, _, rfl, (Same.tr (Same.us rfl Same.rf) hs1), Same.tr ha1 (Same.us rfl Same.rf)⟩
        first | (exfalso; omega) | (congr 3; unfold sMost; (repeat (first | rw [if_pos (by omega)] | rw [if_neg (by omega)])); done)
    · skip
      refine RQ.call rfl rfl (m_isIn_f (by omega) (by omega) (by omega) h2) ?_
      refine RQ.seg 2 (pc' := 23) (L' := [some (.ref 80), some (.int (iI j)), none]) (st' := [.int (iI (-1))]) (g1 := (HW (usc sc 8000 0) ar tx oc rl ou tl, q)) rfl ?_
      refine RQ.ret rfl rfl ?_
      refine ⟨?_, _, _, rfl, (by repeat (first | exact Same.rf | refine Same.us rfl ?_)), (by repeat (first | exact Same.rf | refine Same.us rfl ?_))⟩
      first | (exfalso; omega) | (congr 3; unfold sMost; (repeat (first | rw [if_pos (by omega)] | rw [if_neg (by omega)])); done)
theorem m_loss {K : PK} {d : Nat} {sc : Nat → Int} {ar : Nat → Int → Int} {tx oc : Nat} {rl : Nat → Option Nat} {ou : Nat → Int64} {tl : List PO} {q : Nat × Nat} {nw nb : Int} {W B : Int → Int → Int} (hF : FrOK nw nb W B) (hM : FrM (sc 8024) (sc 8025) (ar 85) (ar 86) nw nb W B) (hP : PMx nw nb W B (ar 94) (ar 95)) {law : Int → Int} (hlw : ∀ j, 0 ≤ j → j < 4 → ar 87 j = law j) (hL : LwOK law) : CQ K (d + 6) 213 [.ref 80] (HW sc ar tx oc rl ou tl, q) (fun r g' => r = some (.int (iI (sLoss nw nb W B law))) ∧ ∃ sc' ar', g' = (HW sc' ar' tx oc rl ou tl, q) ∧ Same scF sc sc' ∧ Same scA ar ar') := by
  have hn := hF.1
  have hm1 := hM.1
  have hm2 := hM.2.1
  have hB := mny_b (nw := nw) (nb := nb) (W := W) (B := B) hF.1.2.1
  have ht3 := t3_r hB
  refine CQ.of (own := 11) (n := 2) (ini := false) (rt := (some .int)) (cd := cd213) (by decide +kernel) rfl (by decide +kernel) rfl (Nat.le_of_ble_eq_true rfl) ?_
  refine RQ.seg 5 (pc' := 9) (L' := [some (.ref 80), none]) (st' := [.int (iI (sc 8025))]) (g1 := (HW (usc sc 8000 0) ar tx oc rl ou tl, q)) rfl ?_
  refine RQ.if1 (a := (sc 8025)) rfl rfl rfl (by omega) (fun (h1 : sc 8025 ≠ 0) => ?_) (fun (h1 : ¬ sc 8025 ≠ 0) => ?_)
  · skip
    refine RQ.seg 1 (pc' := 17) (L' := [some (.ref 80), none]) (st' := [.ref 80]) (g1 := (HW (usc sc 8000 0) ar tx oc rl ou tl, q)) rfl ?_
    refine RQ.callQ rfl rfl ((m_layRows (d := 0) (sc := usc sc 8000 0) (ar := ar) hF hM hP hlw hL).up (by omega)) (fun rv g1 hc => ?_)
    obtain ⟨rfl, sc1, ar1, rfl, hs1, ha1, hD⟩ := hc
    have hM1 := hM.sm hs1 ha1
    have hP1 : PMx nw nb W B (ar1 94) (ar1 95) := by rw [ha1 94 rfl, ha1 95 rfl]; exact hP
    have hrm : sc1 8052 = t3 (mny nw nb W B) := hD.1
    refine RQ.seg 2 (pc' := 22) (L' := [some (.ref 80), none]) (st' := [.int (iI 0), .ref 80]) (g1 := (HW sc1 ar1 tx oc rl ou tl, q)) rfl ?_
    have hls := lsr_r (r := rsf nw nb W B law) (rsv_r hF) (t3 (mny nw nb W B)).toNat
    refine RQ.call rfl rfl (CallR.up (d := 5) (m_savedInL (d := 0) hF hM1 hP1 hD hL) (by omega)) ?_
    refine RQ.seg 3 (pc' := 28) (L' := [some (.ref 80), some (.int (iI (lsr (rsf nw nb W B law) (rsv nw nb W B) (t3 (mny nw nb W B)).toNat)))]) (st' := [.int (iI (-1)), .int (iI (lsr (rsf nw nb W B law) (rsv nw nb W B) (t3 (mny nw nb W B)).toNat))]) (g1 := (HW sc1 ar1 tx oc rl ou tl, q)) rfl ?_
    refine RQ.if2 (a := (lsr (rsf nw nb W B law) (rsv nw nb W B) (t3 (mny nw nb W B)).toNat)) (b := (-1)) rfl rfl rfl rfl (by omega) (by omega) (fun (h2 : lsr (rsf nw nb W B law) (rsv nw nb W B) (t3 (mny nw nb W B)).toNat ≠ (-1)) => ?_) (fun (h2 : ¬ lsr (rsf nw nb W B law) (rsv nw nb W B) (t3 (mny nw nb W B)).toNat ≠ (-1)) => ?_)
    · skip
      refine RQ.seg 3 (pc' := 42) (L' := [some (.ref 80), some (.int (iI (lsr (rsf nw nb W B law) (rsv nw nb W B) (t3 (mny nw nb W B)).toNat)))]) (st' := [.ref 80, .ref 108]) (g1 := (HW sc1 ar1 tx oc rl ou tl, q)) rfl ?_
      have ham := amx_r (rsv nw nb W B) (t3 (mny nw nb W B)).toNat
      refine RQ.call rfl rfl (CallR.up (d := 1) (m_mostRow (d := 0) hF hM1 hD) (by omega)) ?_
      refine RQ.ialdv (z := (amx (rsv nw nb W B) (t3 (mny nw nb W B)).toNat)) (v := (rsv nw nb W B (amx (rsv nw nb W B) (t3 (mny nw nb W B)).toNat))) rfl rfl rfl (by omega) (by decide) (hD.2 (amx (rsv nw nb W B) (t3 (mny nw nb W B)).toNat) (by omega) (by omega)).1 ?_
      refine RQ.seg 2 (pc' := 48) (L' := [some (.ref 80), some (.int (iI (lsr (rsf nw nb W B law) (rsv nw nb W B) (t3 (mny nw nb W B)).toNat)))]) (st' := [.int ((iI (rsv nw nb W B (amx (rsv nw nb W B) (t3 (mny nw nb W B)).toNat))) - (iI (lsr (rsf nw nb W B law) (rsv nw nb W B) (t3 (mny nw nb W B)).toNat)))]) (g1 := (HW sc1 ar1 tx oc rl ou tl, q)) rfl ?_
      refine RQ.to (L' := [some (.ref 80), some (.int (iI (lsr (rsf nw nb W B law) (rsv nw nb W B) (t3 (mny nw nb W B)).toNat)))]) (st' := [.int (iI (rsv nw nb W B (amx (rsv nw nb W B) (t3 (mny nw nb W B)).toNat) - (lsr (rsf nw nb W B law) (rsv nw nb W B) (t3 (mny nw nb W B)).toNat)))]) rfl (by simp only [iI_add, iI_sub, iI_mul, iI_neg]) ?_
      refine RQ.ret rfl rfl ?_
      refine ⟨?_, _, _, rfl, (Same.tr (Same.us rfl Same.rf) hs1), ha1⟩
      first | (exfalso; omega) | (congr 3; unfold sLoss lsv; (repeat (first | rw [if_pos (by omega)] | rw [if_neg (by omega)])); done)
    · skip
      refine RQ.seg 2 (pc' := 48) (L' := [some (.ref 80), some (.int (iI (lsr (rsf nw nb W B law) (rsv nw nb W B) (t3 (mny nw nb W B)).toNat)))]) (st' := [.int (iI (-1000000))]) (g1 := (HW sc1 ar1 tx oc rl ou tl, q)) rfl ?_
      refine RQ.ret rfl rfl ?_
      refine ⟨?_, _, _, rfl, (Same.tr (Same.us rfl Same.rf) hs1), ha1⟩
      first | (exfalso; omega) | (congr 3; unfold sLoss lsv; (repeat (first | rw [if_pos (by omega)] | rw [if_neg (by omega)])); done)
  · skip
    refine RQ.seg 1 (pc' := 15) (L' := [some (.ref 80), none]) (st' := [.int (iI (-1000000))]) (g1 := (HW (usc sc 8000 0) ar tx oc rl ou tl, q)) rfl ?_
    refine RQ.ret rfl rfl ?_
    refine ⟨?_, _, _, rfl, (by repeat (first | exact Same.rf | refine Same.us rfl ?_)), (by repeat (first | exact Same.rf | refine Same.us rfl ?_))⟩
    first | (exfalso; omega) | (congr 3; unfold sLoss lsv; (repeat (first | rw [if_pos (by omega)] | rw [if_neg (by omega)])); done)
theorem m_bb_l {K : PK} {d : Nat} {sc : Nat → Int} {ar : Nat → Int → Int} {tx oc : Nat} {rl : Nat → Option Nat} {ou : Nat → Int64} {tl : List PO} {q : Nat × Nat} {Q : Option Value → PG → Prop} {nw nb : Int} {W B : Int → Int → Int} (hF : FrOK nw nb W B) (hM : FrM (sc 8024) (sc 8025) (ar 85) (ar 86) nw nb W B) (hP : PMx nw nb W B (ar 94) (ar 95)) {law : Int → Int} (hD : LyR nw nb W B law sc ar) (hL : LwOK law) (hk : Q (some (.int (iI (bbn (rsv nw nb W B) (pyv nw nb W B law) (rsv nw nb W B (amx (rsv nw nb W B) (t3 (mny nw nb W B)).toNat)) (t3 (mny nw nb W B)).toNat)))) (HW sc ar tx oc rl ou tl, q)) : ∀ (m k : Nat) (e4 : Option Value) (hm : (k : Int) + m = t3 (mny nw nb W B)), RQ K (d + 4) 11 false (some .int) cd216 32 [some (.ref 80), some (.int (iI (rsv nw nb W B (amx (rsv nw nb W B) (t3 (mny nw nb W B)).toNat)))), some (.int (iI (bbn (rsv nw nb W B) (pyv nw nb W B law) (rsv nw nb W B (amx (rsv nw nb W B) (t3 (mny nw nb W B)).toNat)) k))), some (.int (iI (k : Int))), e4] [] (HW sc ar tx oc rl ou tl, q) Q
  | 0, k, e4, hm => by
    have hn := hF.1
    have hm1 := hM.1
    have hm2 := hM.2.1
    have hB := mny_b (nw := nw) (nb := nb) (W := W) (B := B) hF.1.2.1
    have ht3 := t3_r hB
    have hrm : sc 8052 = t3 (mny nw nb W B) := hD.1
    have hv0 := rsv_r hF (k : Int)
    have hv1 := rsv_r hF (amx (rsv nw nb W B) (t3 (mny nw nb W B)).toNat)
    have hpv := pyv_r hF hL
    have hpk := hpv (k : Int)
    have hbb := bbn_r (sv := rsv nw nb W B) (top := rsv nw nb W B (amx (rsv nw nb W B) (t3 (mny nw nb W B)).toNat)) hpv k
    refine RQ.seg 3 (pc' := 37) (L' := [some (.ref 80), some (.int (iI (rsv nw nb W B (amx (rsv nw nb W B) (t3 (mny nw nb W B)).toNat)))), some (.int (iI (bbn (rsv nw nb W B) (pyv nw nb W B law) (rsv nw nb W B (amx (rsv nw nb W B) (t3 (mny nw nb W B)).toNat)) k))), some (.int (iI (k : Int))), e4]) (st' := [.int (iI (sc 8052)), .int (iI (k : Int))]) (g1 := (HW sc ar tx oc rl ou tl, q)) rfl ?_
    refine RQ.to (L' := [some (.ref 80), some (.int (iI (rsv nw nb W B (amx (rsv nw nb W B) (t3 (mny nw nb W B)).toNat)))), some (.int (iI (bbn (rsv nw nb W B) (pyv nw nb W B law) (rsv nw nb W B (amx (rsv nw nb W B) (t3 (mny nw nb W B)).toNat)) k))), some (.int (iI (k : Int))), e4]) (st' := [.int (iI (t3 (mny nw nb W B))), .int (iI (k : Int))]) rfl (by rw [show sc 8052 = t3 (mny nw nb W B) from hrm]) ?_
    refine RQ.if2 (a := (k : Int)) (b := (t3 (mny nw nb W B))) rfl rfl rfl rfl (by omega) (by omega) (fun _ => ?_) (fun (q : ¬ t3 (mny nw nb W B) ≤ (k : Int)) => absurd (show t3 (mny nw nb W B) ≤ (k : Int) from by omega) q)
    refine RQ.seg 1 (pc' := 87) (L' := [some (.ref 80), some (.int (iI (rsv nw nb W B (amx (rsv nw nb W B) (t3 (mny nw nb W B)).toNat)))), some (.int (iI (bbn (rsv nw nb W B) (pyv nw nb W B law) (rsv nw nb W B (amx (rsv nw nb W B) (t3 (mny nw nb W B)).toNat)) k))), some (.int (iI (k : Int))), e4]) (st' := [.int (iI (bbn (rsv nw nb W B) (pyv nw nb W B law) (rsv nw nb W B (amx (rsv nw nb W B) (t3 (mny nw nb W B)).toNat)) k))]) (g1 := (HW sc ar tx oc rl ou tl, q)) rfl ?_
    refine RQ.ret rfl rfl ?_
    rw [show (t3 (mny nw nb W B)).toNat = k by omega] at hk ⊢
    exact hk
  | m + 1, k, e4, hm => by
    have hn := hF.1
    have hm1 := hM.1
    have hm2 := hM.2.1
    have hB := mny_b (nw := nw) (nb := nb) (W := W) (B := B) hF.1.2.1
    have ht3 := t3_r hB
    have hrm : sc 8052 = t3 (mny nw nb W B) := hD.1
    have hv0 := rsv_r hF (k : Int)
    have hv1 := rsv_r hF (amx (rsv nw nb W B) (t3 (mny nw nb W B)).toNat)
    have hpv := pyv_r hF hL
    have hpk := hpv (k : Int)
    have hbb := bbn_r (sv := rsv nw nb W B) (top := rsv nw nb W B (amx (rsv nw nb W B) (t3 (mny nw nb W B)).toNat)) hpv k
    refine RQ.seg 3 (pc' := 37) (L' := [some (.ref 80), some (.int (iI (rsv nw nb W B (amx (rsv nw nb W B) (t3 (mny nw nb W B)).toNat)))), some (.int (iI (bbn (rsv nw nb W B) (pyv nw nb W B law) (rsv nw nb W B (amx (rsv nw nb W B) (t3 (mny nw nb W B)).toNat)) k))), some (.int (iI (k : Int))), e4]) (st' := [.int (iI (sc 8052)), .int (iI (k : Int))]) (g1 := (HW sc ar tx oc rl ou tl, q)) rfl ?_
    refine RQ.to (L' := [some (.ref 80), some (.int (iI (rsv nw nb W B (amx (rsv nw nb W B) (t3 (mny nw nb W B)).toNat)))), some (.int (iI (bbn (rsv nw nb W B) (pyv nw nb W B law) (rsv nw nb W B (amx (rsv nw nb W B) (t3 (mny nw nb W B)).toNat)) k))), some (.int (iI (k : Int))), e4]) (st' := [.int (iI (t3 (mny nw nb W B))), .int (iI (k : Int))]) rfl (by rw [show sc 8052 = t3 (mny nw nb W B) from hrm]) ?_
    refine RQ.if2 (a := (k : Int)) (b := (t3 (mny nw nb W B))) rfl rfl rfl rfl (by omega) (by omega) (fun (q : t3 (mny nw nb W B) ≤ (k : Int)) => absurd q (show ¬ t3 (mny nw nb W B) ≤ (k : Int) from by omega)) (fun _ => ?_)
    refine RQ.seg 3 (pc' := 45) (L' := [some (.ref 80), some (.int (iI (rsv nw nb W B (amx (rsv nw nb W B) (t3 (mny nw nb W B)).toNat)))), some (.int (iI (bbn (rsv nw nb W B) (pyv nw nb W B law) (rsv nw nb W B (amx (rsv nw nb W B) (t3 (mny nw nb W B)).toNat)) k))), some (.int (iI (k : Int))), e4]) (st' := [.int (iI (k : Int)), .ref 108]) (g1 := (HW sc ar tx oc rl ou tl, q)) rfl ?_
    refine RQ.ialdv (z := (k : Int)) (v := (rsv nw nb W B (k : Int))) rfl rfl rfl (by omega) (by decide) (hD.2 (k : Int) (by omega) (by omega)).1 ?_
    refine RQ.seg 1 (pc' := 47) (L' := [some (.ref 80), some (.int (iI (rsv nw nb W B (amx (rsv nw nb W B) (t3 (mny nw nb W B)).toNat)))), some (.int (iI (bbn (rsv nw nb W B) (pyv nw nb W B law) (rsv nw nb W B (amx (rsv nw nb W B) (t3 (mny nw nb W B)).toNat)) k))), some (.int (iI (k : Int))), e4]) (st' := [.int (iI (rsv nw nb W B (amx (rsv nw nb W B) (t3 (mny nw nb W B)).toNat))), .int (iI (rsv nw nb W B (k : Int)))]) (g1 := (HW sc ar tx oc rl ou tl, q)) rfl ?_
    refine RQ.if2 (a := (rsv nw nb W B (k : Int))) (b := (rsv nw nb W B (amx (rsv nw nb W B) (t3 (mny nw nb W B)).toNat))) rfl rfl rfl rfl (by omega) (by omega) (fun (h2 : rsv nw nb W B (k : Int) = rsv nw nb W B (amx (rsv nw nb W B) (t3 (mny nw nb W B)).toNat)) => ?_) (fun (h2 : ¬ rsv nw nb W B (k : Int) = rsv nw nb W B (amx (rsv nw nb W B) (t3 (mny nw nb W B)).toNat)) => ?_)
    · skip
      refine RQ.seg 2 (pc' := 55) (L' := [some (.ref 80), some (.int (iI (rsv nw nb W B (amx (rsv nw nb W B) (t3 (mny nw nb W B)).toNat)))), some (.int (iI (bbn (rsv nw nb W B) (pyv nw nb W B law) (rsv nw nb W B (amx (rsv nw nb W B) (t3 (mny nw nb W B)).toNat)) k))), some (.int (iI (k : Int))), e4]) (st' := [.int (iI (k : Int)), .ref 80]) (g1 := (HW sc ar tx oc rl ou tl, q)) rfl ?_
      refine RQ.call rfl rfl (m_payFor (i := (k : Int)) hF hM hP hD hL (by omega)) ?_
      refine RQ.seg 3 (pc' := 63) (L' := [some (.ref 80), some (.int (iI (rsv nw nb W B (amx (rsv nw nb W B) (t3 (mny nw nb W B)).toNat)))), some (.int (iI (bbn (rsv nw nb W B) (pyv nw nb W B law) (rsv nw nb W B (amx (rsv nw nb W B) (t3 (mny nw nb W B)).toNat)) k))), some (.int (iI (k : Int))), some (.int (iI (pyv nw nb W B law (k : Int))))]) (st' := [.int (iI (-1)), .int (iI (pyv nw nb W B law (k : Int)))]) (g1 := (HW sc ar tx oc rl ou tl, q)) rfl ?_
      refine RQ.if2 (a := (pyv nw nb W B law (k : Int))) (b := (-1)) rfl rfl rfl rfl (by omega) (by omega) (fun (h3 : pyv nw nb W B law (k : Int) = (-1)) => ?_) (fun (h3 : ¬ pyv nw nb W B law (k : Int) = (-1)) => ?_)
      · skip
        refine RQ.seg 2 (pc' := 32) (L' := [some (.ref 80), some (.int (iI (rsv nw nb W B (amx (rsv nw nb W B) (t3 (mny nw nb W B)).toNat)))), some (.int (iI (bbn (rsv nw nb W B) (pyv nw nb W B law) (rsv nw nb W B (amx (rsv nw nb W B) (t3 (mny nw nb W B)).toNat)) k))), some (.int ((iI (k : Int)) + (iI 1))), some (.int (iI (pyv nw nb W B law (k : Int))))]) (st' := []) (g1 := (HW sc ar tx oc rl ou tl, q)) rfl ?_
        refine RQ.to (L' := [some (.ref 80), some (.int (iI (rsv nw nb W B (amx (rsv nw nb W B) (t3 (mny nw nb W B)).toNat)))), some (.int (iI (bbn (rsv nw nb W B) (pyv nw nb W B law) (rsv nw nb W B (amx (rsv nw nb W B) (t3 (mny nw nb W B)).toNat)) k))), some (.int (iI ((k : Int) + 1))), some (.int (iI (pyv nw nb W B law (k : Int))))]) (st' := []) (by simp only [iI_add, iI_sub, iI_mul, iI_neg]) rfl ?_
        have e9 : bbn (rsv nw nb W B) (pyv nw nb W B law) (rsv nw nb W B (amx (rsv nw nb W B) (t3 (mny nw nb W B)).toNat)) k = bbn (rsv nw nb W B) (pyv nw nb W B law) (rsv nw nb W B (amx (rsv nw nb W B) (t3 (mny nw nb W B)).toNat)) (k + 1) := by rw [bbn]; first | rw [if_pos (by omega)] | rw [if_neg (by omega)]
        rw [e9]
        exact m_bb_l hF hM hP hD hL hk m (k + 1) _ (by omega)
      · skip
        refine RQ.seg 2 (pc' := 68) (L' := [some (.ref 80), some (.int (iI (rsv nw nb W B (amx (rsv nw nb W B) (t3 (mny nw nb W B)).toNat)))), some (.int (iI (bbn (rsv nw nb W B) (pyv nw nb W B law) (rsv nw nb W B (amx (rsv nw nb W B) (t3 (mny nw nb W B)).toNat)) k))), some (.int (iI (k : Int))), some (.int (iI (pyv nw nb W B law (k : Int))))]) (st' := [.int (iI (-1)), .int (iI (bbn (rsv nw nb W B) (pyv nw nb W B law) (rsv nw nb W B (amx (rsv nw nb W B) (t3 (mny nw nb W B)).toNat)) k))]) (g1 := (HW sc ar tx oc rl ou tl, q)) rfl ?_
        refine RQ.if2 (a := (bbn (rsv nw nb W B) (pyv nw nb W B law) (rsv nw nb W B (amx (rsv nw nb W B) (t3 (mny nw nb W B)).toNat)) k)) (b := (-1)) rfl rfl rfl rfl (by omega) (by omega) (fun (h4 : bbn (rsv nw nb W B) (pyv nw nb W B law) (rsv nw nb W B (amx (rsv nw nb W B) (t3 (mny nw nb W B)).toNat)) k = (-1)) => ?_) (fun (h4 : ¬ bbn (rsv nw nb W B) (pyv nw nb W B law) (rsv nw nb W B (amx (rsv nw nb W B) (t3 (mny nw nb W B)).toNat)) k = (-1)) => ?_)
        · skip
          refine RQ.seg 4 (pc' := 32) (L' := [some (.ref 80), some (.int (iI (rsv nw nb W B (amx (rsv nw nb W B) (t3 (mny nw nb W B)).toNat)))), some (.int (iI (pyv nw nb W B law (k : Int)))), some (.int ((iI (k : Int)) + (iI 1))), some (.int (iI (pyv nw nb W B law (k : Int))))]) (st' := []) (g1 := (HW sc ar tx oc rl ou tl, q)) rfl ?_
          refine RQ.to (L' := [some (.ref 80), some (.int (iI (rsv nw nb W B (amx (rsv nw nb W B) (t3 (mny nw nb W B)).toNat)))), some (.int (iI (pyv nw nb W B law (k : Int)))), some (.int (iI ((k : Int) + 1))), some (.int (iI (pyv nw nb W B law (k : Int))))]) (st' := []) (by simp only [iI_add, iI_sub, iI_mul, iI_neg]) rfl ?_
          have e9 : pyv nw nb W B law (k : Int) = bbn (rsv nw nb W B) (pyv nw nb W B law) (rsv nw nb W B (amx (rsv nw nb W B) (t3 (mny nw nb W B)).toNat)) (k + 1) := by rw [bbn]; first | rw [if_pos (by omega)] | rw [if_neg (by omega)]
          have e10 := m_bb_l (K := K) (d := d) hF hM hP hD hL hk m (k + 1) (some (.int (iI (pyv nw nb W B law (k : Int))))) (by omega)
          rw [← e9] at e10
          exact e10
        · skip
          refine RQ.seg 2 (pc' := 74) (L' := [some (.ref 80), some (.int (iI (rsv nw nb W B (amx (rsv nw nb W B) (t3 (mny nw nb W B)).toNat)))), some (.int (iI (bbn (rsv nw nb W B) (pyv nw nb W B law) (rsv nw nb W B (amx (rsv nw nb W B) (t3 (mny nw nb W B)).toNat)) k))), some (.int (iI (k : Int))), some (.int (iI (pyv nw nb W B law (k : Int))))]) (st' := [.int (iI (bbn (rsv nw nb W B) (pyv nw nb W B law) (rsv nw nb W B (amx (rsv nw nb W B) (t3 (mny nw nb W B)).toNat)) k)), .int (iI (pyv nw nb W B law (k : Int)))]) (g1 := (HW sc ar tx oc rl ou tl, q)) rfl ?_
          refine RQ.if2 (a := (pyv nw nb W B law (k : Int))) (b := (bbn (rsv nw nb W B) (pyv nw nb W B law) (rsv nw nb W B (amx (rsv nw nb W B) (t3 (mny nw nb W B)).toNat)) k)) rfl rfl rfl rfl (by omega) (by omega) (fun (h5 : bbn (rsv nw nb W B) (pyv nw nb W B law) (rsv nw nb W B (amx (rsv nw nb W B) (t3 (mny nw nb W B)).toNat)) k ≤ pyv nw nb W B law (k : Int)) => ?_) (fun (h5 : ¬ bbn (rsv nw nb W B) (pyv nw nb W B law) (rsv nw nb W B (amx (rsv nw nb W B) (t3 (mny nw nb W B)).toNat)) k ≤ pyv nw nb W B law (k : Int)) => ?_)
          · skip
            refine RQ.seg 2 (pc' := 32) (L' := [some (.ref 80), some (.int (iI (rsv nw nb W B (amx (rsv nw nb W B) (t3 (mny nw nb W B)).toNat)))), some (.int (iI (bbn (rsv nw nb W B) (pyv nw nb W B law) (rsv nw nb W B (amx (rsv nw nb W B) (t3 (mny nw nb W B)).toNat)) k))), some (.int ((iI (k : Int)) + (iI 1))), some (.int (iI (pyv nw nb W B law (k : Int))))]) (st' := []) (g1 := (HW sc ar tx oc rl ou tl, q)) rfl ?_
            refine RQ.to (L' := [some (.ref 80), some (.int (iI (rsv nw nb W B (amx (rsv nw nb W B) (t3 (mny nw nb W B)).toNat)))), some (.int (iI (bbn (rsv nw nb W B) (pyv nw nb W B law) (rsv nw nb W B (amx (rsv nw nb W B) (t3 (mny nw nb W B)).toNat)) k))), some (.int (iI ((k : Int) + 1))), some (.int (iI (pyv nw nb W B law (k : Int))))]) (st' := []) (by simp only [iI_add, iI_sub, iI_mul, iI_neg]) rfl ?_
            have e9 : bbn (rsv nw nb W B) (pyv nw nb W B law) (rsv nw nb W B (amx (rsv nw nb W B) (t3 (mny nw nb W B)).toNat)) k = bbn (rsv nw nb W B) (pyv nw nb W B law) (rsv nw nb W B (amx (rsv nw nb W B) (t3 (mny nw nb W B)).toNat)) (k + 1) := by rw [bbn]; first | rw [if_pos (by omega)] | rw [if_neg (by omega)]
            rw [e9]
            exact m_bb_l hF hM hP hD hL hk m (k + 1) _ (by omega)
          · skip
            refine RQ.seg 4 (pc' := 32) (L' := [some (.ref 80), some (.int (iI (rsv nw nb W B (amx (rsv nw nb W B) (t3 (mny nw nb W B)).toNat)))), some (.int (iI (pyv nw nb W B law (k : Int)))), some (.int ((iI (k : Int)) + (iI 1))), some (.int (iI (pyv nw nb W B law (k : Int))))]) (st' := []) (g1 := (HW sc ar tx oc rl ou tl, q)) rfl ?_
            refine RQ.to (L' := [some (.ref 80), some (.int (iI (rsv nw nb W B (amx (rsv nw nb W B) (t3 (mny nw nb W B)).toNat)))), some (.int (iI (pyv nw nb W B law (k : Int)))), some (.int (iI ((k : Int) + 1))), some (.int (iI (pyv nw nb W B law (k : Int))))]) (st' := []) (by simp only [iI_add, iI_sub, iI_mul, iI_neg]) rfl ?_
            have e9 : pyv nw nb W B law (k : Int) = bbn (rsv nw nb W B) (pyv nw nb W B law) (rsv nw nb W B (amx (rsv nw nb W B) (t3 (mny nw nb W B)).toNat)) (k + 1) := by rw [bbn]; first | rw [if_pos (by omega)] | rw [if_neg (by omega)]
            have e10 := m_bb_l (K := K) (d := d) hF hM hP hD hL hk m (k + 1) (some (.int (iI (pyv nw nb W B law (k : Int))))) (by omega)
            rw [← e9] at e10
            exact e10
    · skip
      refine RQ.seg 3 (pc' := 32) (L' := [some (.ref 80), some (.int (iI (rsv nw nb W B (amx (rsv nw nb W B) (t3 (mny nw nb W B)).toNat)))), some (.int (iI (bbn (rsv nw nb W B) (pyv nw nb W B law) (rsv nw nb W B (amx (rsv nw nb W B) (t3 (mny nw nb W B)).toNat)) k))), some (.int ((iI (k : Int)) + (iI 1))), e4]) (st' := []) (g1 := (HW sc ar tx oc rl ou tl, q)) rfl ?_
      refine RQ.to (L' := [some (.ref 80), some (.int (iI (rsv nw nb W B (amx (rsv nw nb W B) (t3 (mny nw nb W B)).toNat)))), some (.int (iI (bbn (rsv nw nb W B) (pyv nw nb W B law) (rsv nw nb W B (amx (rsv nw nb W B) (t3 (mny nw nb W B)).toNat)) k))), some (.int (iI ((k : Int) + 1))), e4]) (st' := []) (by simp only [iI_add, iI_sub, iI_mul, iI_neg]) rfl ?_
      have e9 : bbn (rsv nw nb W B) (pyv nw nb W B law) (rsv nw nb W B (amx (rsv nw nb W B) (t3 (mny nw nb W B)).toNat)) k = bbn (rsv nw nb W B) (pyv nw nb W B law) (rsv nw nb W B (amx (rsv nw nb W B) (t3 (mny nw nb W B)).toNat)) (k + 1) := by rw [bbn]; first | rw [if_pos (by omega)] | rw [if_neg (by omega)]
      rw [e9]
      exact m_bb_l hF hM hP hD hL hk m (k + 1) _ (by omega)
theorem m_bribe {K : PK} {d : Nat} {sc : Nat → Int} {ar : Nat → Int → Int} {tx oc : Nat} {rl : Nat → Option Nat} {ou : Nat → Int64} {tl : List PO} {q : Nat × Nat} {nw nb : Int} {W B : Int → Int → Int} (hF : FrOK nw nb W B) (hM : FrM (sc 8024) (sc 8025) (ar 85) (ar 86) nw nb W B) (hP : PMx nw nb W B (ar 94) (ar 95)) {law : Int → Int} (hlw : ∀ j, 0 ≤ j → j < 4 → ar 87 j = law j) (hL : LwOK law) : CQ K (d + 6) 216 [.ref 80] (HW sc ar tx oc rl ou tl, q) (fun r g' => r = some (.int (iI (sBribe nw nb W B law))) ∧ ∃ sc' ar', g' = (HW sc' ar' tx oc rl ou tl, q) ∧ Same scF sc sc' ∧ Same scA ar ar') := by
  have hn := hF.1
  have hm1 := hM.1
  have hm2 := hM.2.1
  have hB := mny_b (nw := nw) (nb := nb) (W := W) (B := B) hF.1.2.1
  have ht3 := t3_r hB
  refine CQ.of (own := 11) (n := 5) (ini := false) (rt := (some .int)) (cd := cd216) (by decide +kernel) rfl (by decide +kernel) rfl (Nat.le_of_ble_eq_true rfl) ?_
  refine RQ.seg 5 (pc' := 9) (L' := [some (.ref 80), none, none, none, none]) (st' := [.int (iI (sc 8025))]) (g1 := (HW (usc sc 8000 0) ar tx oc rl ou tl, q)) rfl ?_
  refine RQ.if1 (a := (sc 8025)) rfl rfl rfl (by omega) (fun (h1 : sc 8025 ≠ 0) => ?_) (fun (h1 : ¬ sc 8025 ≠ 0) => ?_)
  · skip
    refine RQ.seg 1 (pc' := 15) (L' := [some (.ref 80), none, none, none, none]) (st' := [.ref 80]) (g1 := (HW (usc sc 8000 0) ar tx oc rl ou tl, q)) rfl ?_
    refine RQ.callQ rfl rfl ((m_layRows (d := 0) (sc := usc sc 8000 0) (ar := ar) hF hM hP hlw hL).up (by omega)) (fun rv g1 hc => ?_)
    obtain ⟨rfl, sc1, ar1, rfl, hs1, ha1, hD⟩ := hc
    have hM1 := hM.sm hs1 ha1
    have hP1 : PMx nw nb W B (ar1 94) (ar1 95) := by rw [ha1 94 rfl, ha1 95 rfl]; exact hP
    have hrm : sc1 8052 = t3 (mny nw nb W B) := hD.1
    refine RQ.seg 3 (pc' := 23) (L' := [some (.ref 80), none, none, none, none]) (st' := [.ref 80, .ref 108]) (g1 := (HW sc1 ar1 tx oc rl ou tl, q)) rfl ?_
    have ham := amx_r (rsv nw nb W B) (t3 (mny nw nb W B)).toNat
    refine RQ.call rfl rfl (CallR.up (d := 1) (m_mostRow (d := 0) hF hM1 hD) (by omega)) ?_
    refine RQ.ialdv (z := (amx (rsv nw nb W B) (t3 (mny nw nb W B)).toNat)) (v := (rsv nw nb W B (amx (rsv nw nb W B) (t3 (mny nw nb W B)).toNat))) rfl rfl rfl (by omega) (by decide) (hD.2 (amx (rsv nw nb W B) (t3 (mny nw nb W B)).toNat) (by omega) (by omega)).1 ?_
    refine RQ.seg 5 (pc' := 32) (L' := [some (.ref 80), some (.int (iI (rsv nw nb W B (amx (rsv nw nb W B) (t3 (mny nw nb W B)).toNat)))), some (.int (iI (-1))), some (.int (iI 0)), none]) (st' := []) (g1 := (HW sc1 ar1 tx oc rl ou tl, q)) rfl ?_
    refine m_bb_l hF hM1 hP1 hD hL ⟨?_, _, _, rfl, (Same.tr (Same.us rfl Same.rf) hs1), ha1⟩ (t3 (mny nw nb W B)).toNat 0 _ (by omega)
    congr 3; unfold sBribe; rw [if_pos (by omega)]
  · skip
    refine RQ.seg 1 (pc' := 13) (L' := [some (.ref 80), none, none, none, none]) (st' := [.int (iI (-1))]) (g1 := (HW (usc sc 8000 0) ar tx oc rl ou tl, q)) rfl ?_
    refine RQ.ret rfl rfl ?_
    refine ⟨?_, _, _, rfl, (by repeat (first | exact Same.rf | refine Same.us rfl ?_)), (by repeat (first | exact Same.rf | refine Same.us rfl ?_))⟩
    congr 3; unfold sBribe; rw [if_neg (by omega)]
theorem m_laws {K : PK} {d : Nat} {sc : Nat → Int} {ar : Nat → Int → Int} {tx oc : Nat} {rl : Nat → Option Nat} {ou : Nat → Int64} {tl : List PO} {q : Nat × Nat} {j : Int} {nw nb : Int} {W B : Int → Int → Int} (hF : FrOK nw nb W B) (hM : FrM (sc 8024) (sc 8025) (ar 85) (ar 86) nw nb W B) (hP : PMx nw nb W B (ar 94) (ar 95)) {law : Int → Int} (hlw : ∀ j, 0 ≤ j → j < 4 → ar 87 j = law j) (hL : LwOK law) (rj : -2147483648 ≤ j ∧ j < 2147483648) : CQ K (d + 6) 214 [.ref 80, .int (iI j)] (HW sc ar tx oc rl ou tl, q) (fun r g' => r = some (.int (iI (sLaws nw nb W B law j))) ∧ ∃ sc' ar', g' = (HW sc' ar' tx oc rl ou tl, q) ∧ Same scF sc sc' ∧ Same scA ar ar') := by
  have hn := hF.1
  have hm1 := hM.1
  have hm2 := hM.2.1
  have hB := mny_b (nw := nw) (nb := nb) (W := W) (B := B) hF.1.2.1
  have ht3 := t3_r hB
  refine CQ.of (own := 11) (n := 7) (ini := false) (rt := (some .int)) (cd := cd214) (by decide +kernel) rfl (by decide +kernel) rfl (Nat.le_of_ble_eq_true rfl) ?_
  refine RQ.seg 5 (pc' := 9) (L' := [some (.ref 80), some (.int (iI j)), none, none, none, none, none]) (st' := [.int (iI (sc 8025))]) (g1 := (HW (usc sc 8000 0) ar tx oc rl ou tl, q)) rfl ?_
  refine RQ.if1 (a := (sc 8025)) rfl rfl rfl (by omega) (fun (h1 : sc 8025 = 0) => ?_) (fun (h1 : ¬ sc 8025 = 0) => ?_)
  · skip
    refine RQ.seg 1 (pc' := 23) (L' := [some (.ref 80), some (.int (iI j)), none, none, none, none, none]) (st' := [.int (iI (-1))]) (g1 := (HW (usc sc 8000 0) ar tx oc rl ou tl, q)) rfl ?_
    refine RQ.ret rfl rfl ?_
    refine ⟨?_, _, _, rfl, (by repeat (first | exact Same.rf | refine Same.us rfl ?_)), (by repeat (first | exact Same.rf | refine Same.us rfl ?_))⟩
    congr 3; unfold sLaws; rw [if_neg (by omega)]
  · skip
    refine RQ.seg 1 (pc' := 13) (L' := [some (.ref 80), some (.int (iI j)), none, none, none, none, none]) (st' := [.int (iI j)]) (g1 := (HW (usc sc 8000 0) ar tx oc rl ou tl, q)) rfl ?_
    refine RQ.seg 1 (pc' := 14) (L' := [some (.ref 80), some (.int (iI j)), none, none, none, none, none]) (st' := [.long ((iI j).toInt64)]) (g1 := (HW (usc sc 8000 0) ar tx oc rl ou tl, q)) rfl ?_
    refine RQ.to (L' := [some (.ref 80), some (.int (iI j)), none, none, none, none, none]) (st' := [.long (lL j)]) rfl (by rw [iI_64 (by omega)]) ?_
    refine RQ.seg 2 (pc' := 16) (L' := [some (.ref 80), some (.int (iI j)), none, none, none, none, none]) (st' := [.long (lL 1), .long (lL 0), .long (lL j)]) (g1 := (HW (usc sc 8000 0) ar tx oc rl ou tl, q)) rfl ?_
    rcases Decidable.em (0 ≤ j ∧ j ≤ 1) with h2 | h2
    · skip
      refine RQ.call rfl rfl (m_isIn_t (by omega) (by omega) (by omega) h2) ?_
      refine RQ.seg 4 (pc' := 29) (L' := [some (.ref 80), some (.int (iI j)), none, none, none, none, none]) (st' := [.int (iI 3), .ref 87]) (g1 := (HW (usc sc 8000 0) ar tx oc rl ou tl, q)) rfl ?_
      refine RQ.ialdv (z := 3) (v := (law 3)) rfl rfl rfl (by omega) (by decide) (hlw 3 (by omega) (by omega)) ?_
      refine RQ.seg 7 (pc' := 39) (L' := [some (.ref 80), some (.int (iI j)), some (.int (iI (law 3))), some (.int (iI (-1))), some (.int (iI (-1))), some (.int (iI 0)), none]) (st' := []) (g1 := (HW (usc sc 8000 0) ar tx oc rl ou tl, q)) rfl ?_
      refine RQ.seg 7 (pc' := 52) (L' := [some (.ref 80), some (.int (iI j)), some (.int (iI (law 3))), some (.int (iI (-1))), some (.int (iI (-1))), some (.int (iI 0)), none]) (st' := [.int (iI 0), .int (iI 3), .ref 87]) (g1 := (HW (usc sc 8000 0) ar tx oc rl ou tl, q)) rfl ?_
      refine RQ.iast (z := 3) (v := 0) (g1 := (HW (usc sc 8000 0) (usc ar 87 (usz (ar 87) 3 0)) tx oc rl ou tl, q)) rfl rfl rfl rfl (by omega) (by decide) (HWa_87 rfl) ?_
      refine RQ.seg 1 (pc' := 54) (L' := [some (.ref 80), some (.int (iI j)), some (.int (iI (law 3))), some (.int (iI (-1))), some (.int (iI (-1))), some (.int (iI 0)), none]) (st' := [.ref 80]) (g1 := (HW (usc sc 8000 0) (usc ar 87 (usz (ar 87) 3 0)) tx oc rl ou tl, q)) rfl ?_
      have hLq0 := lwq_ok hL (q := 0) (by omega)
      refine RQ.callQ rfl rfl ((m_layRows (d := 0) (sc := usc sc 8000 0) (ar := usc ar 87 (usz (ar 87) 3 0)) hF hM hP (lw_up (fun j h0 h1 _ => hlw j h0 h1) 0) hLq0).up (by omega)) (fun rv g1 hc => ?_)
      obtain ⟨rfl, scq0, arq0, rfl, hsx, hax, hDq0⟩ := hc
      have hsq0 : Same scF sc scq0 := Same.tr (Same.us rfl Same.rf) hsx
      have haq0 : Same lwA ar arq0 := Same.tr (Same.us rfl Same.rf) (hax.w rfl)
      have hMq0 : FrM (scq0 8024) (scq0 8025) (arq0 85) (arq0 86) nw nb W B := by rw [hsq0 8024 rfl, hsq0 8025 rfl, haq0 85 rfl, haq0 86 rfl]; exact hM
      have hPq0 : PMx nw nb W B (arq0 94) (arq0 95) := by rw [haq0 94 rfl, haq0 95 rfl]; exact hP
      have h8q0 : arq0 87 = usz (ar 87) 3 0 := (hax 87 rfl).trans rfl
      have hnq0 : ∀ j, 0 ≤ j → j < 4 → j ≠ 3 → arq0 87 j = law j := fun j h0 h1 h2 => by rw [h8q0, usz_n h2]; exact hlw j h0 h1
      refine RQ.seg 2 (pc' := 59) (L' := [some (.ref 80), some (.int (iI j)), some (.int (iI (law 3))), some (.int (iI (-1))), some (.int (iI (-1))), some (.int (iI 0)), none]) (st' := [.int (iI 1), .ref 80]) (g1 := (HW scq0 arq0 tx oc rl ou tl, q)) rfl ?_
      have hvq0 : -1 ≤ msv nw nb W B law 0 ∧ msv nw nb W B law 0 ≤ 36 := msr_r (rsv_r hF) _
      refine RQ.call rfl rfl (CallR.up (d := 5) (m_savedInM (d := 0) hF hMq0 hPq0 hDq0 hLq0) (by omega)) ?_
      refine RQ.seg 3 (pc' := 68) (L' := [some (.ref 80), some (.int (iI j)), some (.int (iI (law 3))), some (.int (iI (-1))), some (.int (iI (-1))), some (.int (iI 0)), some (.int (iI (msv nw nb W B law 0)))]) (st' := [.int (iI (-1)), .int (iI (msv nw nb W B law 0))]) (g1 := (HW scq0 arq0 tx oc rl ou tl, q)) rfl ?_
      refine RQ.if2 (a := (msv nw nb W B law 0)) (b := (-1)) rfl rfl rfl rfl (by omega) (by omega) (fun (h3 : (-1) < msv nw nb W B law 0) => ?_) (fun (h3 : ¬ (-1) < msv nw nb W B law 0) => ?_)
      · skip
        refine RQ.seg 6 (pc' := 39) (L' := [some (.ref 80), some (.int (iI j)), some (.int (iI (law 3))), some (.int (iI 0)), some (.int (iI (msv nw nb W B law 0))), some (.int (iI 1)), some (.int (iI (msv nw nb W B law 0)))]) (st' := []) (g1 := (HW scq0 arq0 tx oc rl ou tl, q)) rfl ?_
        have eq0 : lw1 ((-1, -1) : Int × Int) 0 (msv nw nb W B law 0) = ((0, msv nw nb W B law 0) : Int × Int) := by unfold lw1; first | exact if_pos (by dsimp only; omega) | exact if_neg (by dsimp only; omega)
        refine RQ.seg 7 (pc' := 52) (L' := [some (.ref 80), some (.int (iI j)), some (.int (iI (law 3))), some (.int (iI 0)), some (.int (iI (msv nw nb W B law 0))), some (.int (iI 1)), some (.int (iI (msv nw nb W B law 0)))]) (st' := [.int (iI 1), .int (iI 3), .ref 87]) (g1 := (HW scq0 arq0 tx oc rl ou tl, q)) rfl ?_
        refine RQ.iast (z := 3) (v := 1) (g1 := (HW scq0 (usc arq0 87 (usz (arq0 87) 3 1)) tx oc rl ou tl, q)) rfl rfl rfl rfl (by omega) (by decide) (HWa_87 rfl) ?_
        refine RQ.seg 1 (pc' := 54) (L' := [some (.ref 80), some (.int (iI j)), some (.int (iI (law 3))), some (.int (iI 0)), some (.int (iI (msv nw nb W B law 0))), some (.int (iI 1)), some (.int (iI (msv nw nb W B law 0)))]) (st' := [.ref 80]) (g1 := (HW scq0 (usc arq0 87 (usz (arq0 87) 3 1)) tx oc rl ou tl, q)) rfl ?_
        have hLq1 := lwq_ok hL (q := 1) (by omega)
        refine RQ.callQ rfl rfl ((m_layRows (d := 0) (sc := scq0) (ar := usc arq0 87 (usz (arq0 87) 3 1)) hF hMq0 hPq0 (lw_up hnq0 1) hLq1).up (by omega)) (fun rv g1 hc => ?_)
        obtain ⟨rfl, scq1, arq1, rfl, hsx, hax, hDq1⟩ := hc
        have hsq1 : Same scF sc scq1 := hsq0.tr hsx
        have haq1 : Same lwA ar arq1 := Same.tr haq0 (Same.tr (Same.us rfl Same.rf) (hax.w rfl))
        have hMq1 : FrM (scq1 8024) (scq1 8025) (arq1 85) (arq1 86) nw nb W B := by rw [hsq1 8024 rfl, hsq1 8025 rfl, haq1 85 rfl, haq1 86 rfl]; exact hM
        have hPq1 : PMx nw nb W B (arq1 94) (arq1 95) := by rw [haq1 94 rfl, haq1 95 rfl]; exact hP
        have h8q1 : arq1 87 = usz (ar 87) 3 1 := (hax 87 rfl).trans (by show usz (arq0 87) 3 1 = _; rw [h8q0, usz_uu])
        have hnq1 : ∀ j, 0 ≤ j → j < 4 → j ≠ 3 → arq1 87 j = law j := fun j h0 h1 h2 => by rw [h8q1, usz_n h2]; exact hlw j h0 h1
        refine RQ.seg 2 (pc' := 59) (L' := [some (.ref 80), some (.int (iI j)), some (.int (iI (law 3))), some (.int (iI 0)), some (.int (iI (msv nw nb W B law 0))), some (.int (iI 1)), some (.int (iI (msv nw nb W B law 0)))]) (st' := [.int (iI 1), .ref 80]) (g1 := (HW scq1 arq1 tx oc rl ou tl, q)) rfl ?_
        have hvq1 : -1 ≤ msv nw nb W B law 1 ∧ msv nw nb W B law 1 ≤ 36 := msr_r (rsv_r hF) _
        refine RQ.call rfl rfl (CallR.up (d := 5) (m_savedInM (d := 0) hF hMq1 hPq1 hDq1 hLq1) (by omega)) ?_
        refine RQ.seg 3 (pc' := 68) (L' := [some (.ref 80), some (.int (iI j)), some (.int (iI (law 3))), some (.int (iI 0)), some (.int (iI (msv nw nb W B law 0))), some (.int (iI 1)), some (.int (iI (msv nw nb W B law 1)))]) (st' := [.int (iI (msv nw nb W B law 0)), .int (iI (msv nw nb W B law 1))]) (g1 := (HW scq1 arq1 tx oc rl ou tl, q)) rfl ?_
        refine RQ.if2 (a := (msv nw nb W B law 1)) (b := (msv nw nb W B law 0)) rfl rfl rfl rfl (by omega) (by omega) (fun (h4 : msv nw nb W B law 0 < msv nw nb W B law 1) => ?_) (fun (h4 : ¬ msv nw nb W B law 0 < msv nw nb W B law 1) => ?_)
        · skip
          refine RQ.seg 6 (pc' := 39) (L' := [some (.ref 80), some (.int (iI j)), some (.int (iI (law 3))), some (.int (iI 1)), some (.int (iI (msv nw nb W B law 1))), some (.int (iI 2)), some (.int (iI (msv nw nb W B law 1)))]) (st' := []) (g1 := (HW scq1 arq1 tx oc rl ou tl, q)) rfl ?_
          have eq1 : lw1 ((0, msv nw nb W B law 0) : Int × Int) 1 (msv nw nb W B law 1) = ((1, msv nw nb W B law 1) : Int × Int) := by unfold lw1; first | exact if_pos (by dsimp only; omega) | exact if_neg (by dsimp only; omega)
          refine RQ.seg 7 (pc' := 52) (L' := [some (.ref 80), some (.int (iI j)), some (.int (iI (law 3))), some (.int (iI 1)), some (.int (iI (msv nw nb W B law 1))), some (.int (iI 2)), some (.int (iI (msv nw nb W B law 1)))]) (st' := [.int (iI 2), .int (iI 3), .ref 87]) (g1 := (HW scq1 arq1 tx oc rl ou tl, q)) rfl ?_
          refine RQ.iast (z := 3) (v := 2) (g1 := (HW scq1 (usc arq1 87 (usz (arq1 87) 3 2)) tx oc rl ou tl, q)) rfl rfl rfl rfl (by omega) (by decide) (HWa_87 rfl) ?_
          refine RQ.seg 1 (pc' := 54) (L' := [some (.ref 80), some (.int (iI j)), some (.int (iI (law 3))), some (.int (iI 1)), some (.int (iI (msv nw nb W B law 1))), some (.int (iI 2)), some (.int (iI (msv nw nb W B law 1)))]) (st' := [.ref 80]) (g1 := (HW scq1 (usc arq1 87 (usz (arq1 87) 3 2)) tx oc rl ou tl, q)) rfl ?_
          have hLq2 := lwq_ok hL (q := 2) (by omega)
          refine RQ.callQ rfl rfl ((m_layRows (d := 0) (sc := scq1) (ar := usc arq1 87 (usz (arq1 87) 3 2)) hF hMq1 hPq1 (lw_up hnq1 2) hLq2).up (by omega)) (fun rv g1 hc => ?_)
          obtain ⟨rfl, scq2, arq2, rfl, hsx, hax, hDq2⟩ := hc
          have hsq2 : Same scF sc scq2 := hsq1.tr hsx
          have haq2 : Same lwA ar arq2 := Same.tr haq1 (Same.tr (Same.us rfl Same.rf) (hax.w rfl))
          have hMq2 : FrM (scq2 8024) (scq2 8025) (arq2 85) (arq2 86) nw nb W B := by rw [hsq2 8024 rfl, hsq2 8025 rfl, haq2 85 rfl, haq2 86 rfl]; exact hM
          have hPq2 : PMx nw nb W B (arq2 94) (arq2 95) := by rw [haq2 94 rfl, haq2 95 rfl]; exact hP
          have h8q2 : arq2 87 = usz (ar 87) 3 2 := (hax 87 rfl).trans (by show usz (arq1 87) 3 2 = _; rw [h8q1, usz_uu])
          have hnq2 : ∀ j, 0 ≤ j → j < 4 → j ≠ 3 → arq2 87 j = law j := fun j h0 h1 h2 => by rw [h8q2, usz_n h2]; exact hlw j h0 h1
          refine RQ.seg 2 (pc' := 59) (L' := [some (.ref 80), some (.int (iI j)), some (.int (iI (law 3))), some (.int (iI 1)), some (.int (iI (msv nw nb W B law 1))), some (.int (iI 2)), some (.int (iI (msv nw nb W B law 1)))]) (st' := [.int (iI 1), .ref 80]) (g1 := (HW scq2 arq2 tx oc rl ou tl, q)) rfl ?_
          have hvq2 : -1 ≤ msv nw nb W B law 2 ∧ msv nw nb W B law 2 ≤ 36 := msr_r (rsv_r hF) _
          refine RQ.call rfl rfl (CallR.up (d := 5) (m_savedInM (d := 0) hF hMq2 hPq2 hDq2 hLq2) (by omega)) ?_
          refine RQ.seg 3 (pc' := 68) (L' := [some (.ref 80), some (.int (iI j)), some (.int (iI (law 3))), some (.int (iI 1)), some (.int (iI (msv nw nb W B law 1))), some (.int (iI 2)), some (.int (iI (msv nw nb W B law 2)))]) (st' := [.int (iI (msv nw nb W B law 1)), .int (iI (msv nw nb W B law 2))]) (g1 := (HW scq2 arq2 tx oc rl ou tl, q)) rfl ?_
          refine RQ.if2 (a := (msv nw nb W B law 2)) (b := (msv nw nb W B law 1)) rfl rfl rfl rfl (by omega) (by omega) (fun (h5 : msv nw nb W B law 1 < msv nw nb W B law 2) => ?_) (fun (h5 : ¬ msv nw nb W B law 1 < msv nw nb W B law 2) => ?_)
          · skip
            refine RQ.seg 6 (pc' := 39) (L' := [some (.ref 80), some (.int (iI j)), some (.int (iI (law 3))), some (.int (iI 2)), some (.int (iI (msv nw nb W B law 2))), some (.int (iI 3)), some (.int (iI (msv nw nb W B law 2)))]) (st' := []) (g1 := (HW scq2 arq2 tx oc rl ou tl, q)) rfl ?_
            have eq2 : lw1 ((1, msv nw nb W B law 1) : Int × Int) 2 (msv nw nb W B law 2) = ((2, msv nw nb W B law 2) : Int × Int) := by unfold lw1; first | exact if_pos (by dsimp only; omega) | exact if_neg (by dsimp only; omega)
            refine RQ.seg 7 (pc' := 93) (L' := [some (.ref 80), some (.int (iI j)), some (.int (iI (law 3))), some (.int (iI 2)), some (.int (iI (msv nw nb W B law 2))), some (.int (iI 3)), some (.int (iI (msv nw nb W B law 2)))]) (st' := [.int (iI (law 3)), .int (iI 3), .ref 87]) (g1 := (HW scq2 arq2 tx oc rl ou tl, q)) rfl ?_
            refine RQ.iast (z := 3) (v := (law 3)) (g1 := (HW scq2 (usc arq2 87 (usz (arq2 87) 3 (law 3))) tx oc rl ou tl, q)) rfl rfl rfl rfl (by omega) (by decide) (HWa_87 rfl) ?_
            refine RQ.seg 1 (pc' := 95) (L' := [some (.ref 80), some (.int (iI j)), some (.int (iI (law 3))), some (.int (iI 2)), some (.int (iI (msv nw nb W B law 2))), some (.int (iI 3)), some (.int (iI (msv nw nb W B law 2)))]) (st' := [.int (iI j)]) (g1 := (HW scq2 (usc arq2 87 (usz (arq2 87) 3 (law 3))) tx oc rl ou tl, q)) rfl ?_
            refine RQ.if1 (a := j) rfl rfl rfl (by omega) (fun (h6 : j ≠ 0) => ?_) (fun (h6 : ¬ j ≠ 0) => ?_)
            · skip
              refine RQ.seg 1 (pc' := 104) (L' := [some (.ref 80), some (.int (iI j)), some (.int (iI (law 3))), some (.int (iI 2)), some (.int (iI (msv nw nb W B law 2))), some (.int (iI 3)), some (.int (iI (msv nw nb W B law 2)))]) (st' := [.int (iI (msv nw nb W B law 2))]) (g1 := (HW scq2 (usc arq2 87 (usz (arq2 87) 3 (law 3))) tx oc rl ou tl, q)) rfl ?_
              refine RQ.ret rfl rfl ?_
              refine ⟨?_, _, _, rfl, hsq2, ?_⟩
              · have e9 : lw3 (msv nw nb W B law) = ((2, msv nw nb W B law 2) : Int × Int) := by unfold lw3; rw [eq0, eq1, eq2]
                congr 3; unfold sLaws; rw [if_pos (by omega), e9]; first | rw [if_pos (by omega)] | rw [if_neg (by omega)]
              · refine Same.un (k := 87) (Same.tr haq2 (Same.us rfl Same.rf)) ?_
                show usz (arq2 87) 3 (law 3) = ar 87; rw [h8q2]; exact usz_back (hlw 3 (by omega) (by omega)).symm
            · skip
              refine RQ.seg 2 (pc' := 104) (L' := [some (.ref 80), some (.int (iI j)), some (.int (iI (law 3))), some (.int (iI 2)), some (.int (iI (msv nw nb W B law 2))), some (.int (iI 3)), some (.int (iI (msv nw nb W B law 2)))]) (st' := [.int (iI 2)]) (g1 := (HW scq2 (usc arq2 87 (usz (arq2 87) 3 (law 3))) tx oc rl ou tl, q)) rfl ?_
              refine RQ.ret rfl rfl ?_
              refine ⟨?_, _, _, rfl, hsq2, ?_⟩
              · have e9 : lw3 (msv nw nb W B law) = ((2, msv nw nb W B law 2) : Int × Int) := by unfold lw3; rw [eq0, eq1, eq2]
                congr 3; unfold sLaws; rw [if_pos (by omega), e9]; first | rw [if_pos (by omega)] | rw [if_neg (by omega)]
              · refine Same.un (k := 87) (Same.tr haq2 (Same.us rfl Same.rf)) ?_
                show usz (arq2 87) 3 (law 3) = ar 87; rw [h8q2]; exact usz_back (hlw 3 (by omega) (by omega)).symm
          · skip
            refine RQ.seg 3 (pc' := 39) (L' := [some (.ref 80), some (.int (iI j)), some (.int (iI (law 3))), some (.int (iI 1)), some (.int (iI (msv nw nb W B law 1))), some (.int (iI 3)), some (.int (iI (msv nw nb W B law 2)))]) (st' := []) (g1 := (HW scq2 arq2 tx oc rl ou tl, q)) rfl ?_
            have eq2 : lw1 ((1, msv nw nb W B law 1) : Int × Int) 2 (msv nw nb W B law 2) = ((1, msv nw nb W B law 1) : Int × Int) := by unfold lw1; first | exact if_pos (by dsimp only; omega) | exact if_neg (by dsimp only; omega)
            refine RQ.seg 7 (pc' := 93) (L' := [some (.ref 80), some (.int (iI j)), some (.int (iI (law 3))), some (.int (iI 1)), some (.int (iI (msv nw nb W B law 1))), some (.int (iI 3)), some (.int (iI (msv nw nb W B law 2)))]) (st' := [.int (iI (law 3)), .int (iI 3), .ref 87]) (g1 := (HW scq2 arq2 tx oc rl ou tl, q)) rfl ?_
            refine RQ.iast (z := 3) (v := (law 3)) (g1 := (HW scq2 (usc arq2 87 (usz (arq2 87) 3 (law 3))) tx oc rl ou tl, q)) rfl rfl rfl rfl (by omega) (by decide) (HWa_87 rfl) ?_
            refine RQ.seg 1 (pc' := 95) (L' := [some (.ref 80), some (.int (iI j)), some (.int (iI (law 3))), some (.int (iI 1)), some (.int (iI (msv nw nb W B law 1))), some (.int (iI 3)), some (.int (iI (msv nw nb W B law 2)))]) (st' := [.int (iI j)]) (g1 := (HW scq2 (usc arq2 87 (usz (arq2 87) 3 (law 3))) tx oc rl ou tl, q)) rfl ?_
            refine RQ.if1 (a := j) rfl rfl rfl (by omega) (fun (h7 : j ≠ 0) => ?_) (fun (h7 : ¬ j ≠ 0) => ?_)
            · skip
              refine RQ.seg 1 (pc' := 104) (L' := [some (.ref 80), some (.int (iI j)), some (.int (iI (law 3))), some (.int (iI 1)), some (.int (iI (msv nw nb W B law 1))), some (.int (iI 3)), some (.int (iI (msv nw nb W B law 2)))]) (st' := [.int (iI (msv nw nb W B law 1))]) (g1 := (HW scq2 (usc arq2 87 (usz (arq2 87) 3 (law 3))) tx oc rl ou tl, q)) rfl ?_
              refine RQ.ret rfl rfl ?_
              refine ⟨?_, _, _, rfl, hsq2, ?_⟩
              · have e9 : lw3 (msv nw nb W B law) = ((1, msv nw nb W B law 1) : Int × Int) := by unfold lw3; rw [eq0, eq1, eq2]
                congr 3; unfold sLaws; rw [if_pos (by omega), e9]; first | rw [if_pos (by omega)] | rw [if_neg (by omega)]
              · refine Same.un (k := 87) (Same.tr haq2 (Same.us rfl Same.rf)) ?_
                show usz (arq2 87) 3 (law 3) = ar 87; rw [h8q2]; exact usz_back (hlw 3 (by omega) (by omega)).symm
            · skip
              refine RQ.seg 2 (pc' := 104) (L' := [some (.ref 80), some (.int (iI j)), some (.int (iI (law 3))), some (.int (iI 1)), some (.int (iI (msv nw nb W B law 1))), some (.int (iI 3)), some (.int (iI (msv nw nb W B law 2)))]) (st' := [.int (iI 1)]) (g1 := (HW scq2 (usc arq2 87 (usz (arq2 87) 3 (law 3))) tx oc rl ou tl, q)) rfl ?_
              refine RQ.ret rfl rfl ?_
              refine ⟨?_, _, _, rfl, hsq2, ?_⟩
              · have e9 : lw3 (msv nw nb W B law) = ((1, msv nw nb W B law 1) : Int × Int) := by unfold lw3; rw [eq0, eq1, eq2]
                congr 3; unfold sLaws; rw [if_pos (by omega), e9]; first | rw [if_pos (by omega)] | rw [if_neg (by omega)]
              · refine Same.un (k := 87) (Same.tr haq2 (Same.us rfl Same.rf)) ?_
                show usz (arq2 87) 3 (law 3) = ar 87; rw [h8q2]; exact usz_back (hlw 3 (by omega) (by omega)).symm
        · skip
          refine RQ.seg 3 (pc' := 39) (L' := [some (.ref 80), some (.int (iI j)), some (.int (iI (law 3))), some (.int (iI 0)), some (.int (iI (msv nw nb W B law 0))), some (.int (iI 2)), some (.int (iI (msv nw nb W B law 1)))]) (st' := []) (g1 := (HW scq1 arq1 tx oc rl ou tl, q)) rfl ?_
          have eq1 : lw1 ((0, msv nw nb W B law 0) : Int × Int) 1 (msv nw nb W B law 1) = ((0, msv nw nb W B law 0) : Int × Int) := by unfold lw1; first | exact if_pos (by dsimp only; omega) | exact if_neg (by dsimp only; omega)
          refine RQ.seg 7 (pc' := 52) (L' := [some (.ref 80), some (.int (iI j)), some (.int (iI (law 3))), some (.int (iI 0)), some (.int (iI (msv nw nb W B law 0))), some (.int (iI 2)), some (.int (iI (msv nw nb W B law 1)))]) (st' := [.int (iI 2), .int (iI 3), .ref 87]) (g1 := (HW scq1 arq1 tx oc rl ou tl, q)) rfl ?_
          refine RQ.iast (z := 3) (v := 2) (g1 := (HW scq1 (usc arq1 87 (usz (arq1 87) 3 2)) tx oc rl ou tl, q)) rfl rfl rfl rfl (by omega) (by decide) (HWa_87 rfl) ?_
          refine RQ.seg 1 (pc' := 54) (L' := [some (.ref 80), some (.int (iI j)), some (.int (iI (law 3))), some (.int (iI 0)), some (.int (iI (msv nw nb W B law 0))), some (.int (iI 2)), some (.int (iI (msv nw nb W B law 1)))]) (st' := [.ref 80]) (g1 := (HW scq1 (usc arq1 87 (usz (arq1 87) 3 2)) tx oc rl ou tl, q)) rfl ?_
          have hLq2 := lwq_ok hL (q := 2) (by omega)
          refine RQ.callQ rfl rfl ((m_layRows (d := 0) (sc := scq1) (ar := usc arq1 87 (usz (arq1 87) 3 2)) hF hMq1 hPq1 (lw_up hnq1 2) hLq2).up (by omega)) (fun rv g1 hc => ?_)
          obtain ⟨rfl, scq2, arq2, rfl, hsx, hax, hDq2⟩ := hc
          have hsq2 : Same scF sc scq2 := hsq1.tr hsx
          have haq2 : Same lwA ar arq2 := Same.tr haq1 (Same.tr (Same.us rfl Same.rf) (hax.w rfl))
          have hMq2 : FrM (scq2 8024) (scq2 8025) (arq2 85) (arq2 86) nw nb W B := by rw [hsq2 8024 rfl, hsq2 8025 rfl, haq2 85 rfl, haq2 86 rfl]; exact hM
          have hPq2 : PMx nw nb W B (arq2 94) (arq2 95) := by rw [haq2 94 rfl, haq2 95 rfl]; exact hP
          have h8q2 : arq2 87 = usz (ar 87) 3 2 := (hax 87 rfl).trans (by show usz (arq1 87) 3 2 = _; rw [h8q1, usz_uu])
          have hnq2 : ∀ j, 0 ≤ j → j < 4 → j ≠ 3 → arq2 87 j = law j := fun j h0 h1 h2 => by rw [h8q2, usz_n h2]; exact hlw j h0 h1
          refine RQ.seg 2 (pc' := 59) (L' := [some (.ref 80), some (.int (iI j)), some (.int (iI (law 3))), some (.int (iI 0)), some (.int (iI (msv nw nb W B law 0))), some (.int (iI 2)), some (.int (iI (msv nw nb W B law 1)))]) (st' := [.int (iI 1), .ref 80]) (g1 := (HW scq2 arq2 tx oc rl ou tl, q)) rfl ?_
          have hvq2 : -1 ≤ msv nw nb W B law 2 ∧ msv nw nb W B law 2 ≤ 36 := msr_r (rsv_r hF) _
          refine RQ.call rfl rfl (CallR.up (d := 5) (m_savedInM (d := 0) hF hMq2 hPq2 hDq2 hLq2) (by omega)) ?_
          refine RQ.seg 3 (pc' := 68) (L' := [some (.ref 80), some (.int (iI j)), some (.int (iI (law 3))), some (.int (iI 0)), some (.int (iI (msv nw nb W B law 0))), some (.int (iI 2)), some (.int (iI (msv nw nb W B law 2)))]) (st' := [.int (iI (msv nw nb W B law 0)), .int (iI (msv nw nb W B law 2))]) (g1 := (HW scq2 arq2 tx oc rl ou tl, q)) rfl ?_
          refine RQ.if2 (a := (msv nw nb W B law 2)) (b := (msv nw nb W B law 0)) rfl rfl rfl rfl (by omega) (by omega) (fun (h8 : msv nw nb W B law 0 < msv nw nb W B law 2) => ?_) (fun (h8 : ¬ msv nw nb W B law 0 < msv nw nb W B law 2) => ?_)
          · skip
            refine RQ.seg 6 (pc' := 39) (L' := [some (.ref 80), some (.int (iI j)), some (.int (iI (law 3))), some (.int (iI 2)), some (.int (iI (msv nw nb W B law 2))), some (.int (iI 3)), some (.int (iI (msv nw nb W B law 2)))]) (st' := []) (g1 := (HW scq2 arq2 tx oc rl ou tl, q)) rfl ?_
            have eq2 : lw1 ((0, msv nw nb W B law 0) : Int × Int) 2 (msv nw nb W B law 2) = ((2, msv nw nb W B law 2) : Int × Int) := by unfold lw1; first | exact if_pos (by dsimp only; omega) | exact if_neg (by dsimp only; omega)
            refine RQ.seg 7 (pc' := 93) (L' := [some (.ref 80), some (.int (iI j)), some (.int (iI (law 3))), some (.int (iI 2)), some (.int (iI (msv nw nb W B law 2))), some (.int (iI 3)), some (.int (iI (msv nw nb W B law 2)))]) (st' := [.int (iI (law 3)), .int (iI 3), .ref 87]) (g1 := (HW scq2 arq2 tx oc rl ou tl, q)) rfl ?_
            refine RQ.iast (z := 3) (v := (law 3)) (g1 := (HW scq2 (usc arq2 87 (usz (arq2 87) 3 (law 3))) tx oc rl ou tl, q)) rfl rfl rfl rfl (by omega) (by decide) (HWa_87 rfl) ?_
            refine RQ.seg 1 (pc' := 95) (L' := [some (.ref 80), some (.int (iI j)), some (.int (iI (law 3))), some (.int (iI 2)), some (.int (iI (msv nw nb W B law 2))), some (.int (iI 3)), some (.int (iI (msv nw nb W B law 2)))]) (st' := [.int (iI j)]) (g1 := (HW scq2 (usc arq2 87 (usz (arq2 87) 3 (law 3))) tx oc rl ou tl, q)) rfl ?_
            refine RQ.if1 (a := j) rfl rfl rfl (by omega) (fun (h9 : j ≠ 0) => ?_) (fun (h9 : ¬ j ≠ 0) => ?_)
            · skip
              refine RQ.seg 1 (pc' := 104) (L' := [some (.ref 80), some (.int (iI j)), some (.int (iI (law 3))), some (.int (iI 2)), some (.int (iI (msv nw nb W B law 2))), some (.int (iI 3)), some (.int (iI (msv nw nb W B law 2)))]) (st' := [.int (iI (msv nw nb W B law 2))]) (g1 := (HW scq2 (usc arq2 87 (usz (arq2 87) 3 (law 3))) tx oc rl ou tl, q)) rfl ?_
              refine RQ.ret rfl rfl ?_
              refine ⟨?_, _, _, rfl, hsq2, ?_⟩
              · have e9 : lw3 (msv nw nb W B law) = ((2, msv nw nb W B law 2) : Int × Int) := by unfold lw3; rw [eq0, eq1, eq2]
                congr 3; unfold sLaws; rw [if_pos (by omega), e9]; first | rw [if_pos (by omega)] | rw [if_neg (by omega)]
              · refine Same.un (k := 87) (Same.tr haq2 (Same.us rfl Same.rf)) ?_
                show usz (arq2 87) 3 (law 3) = ar 87; rw [h8q2]; exact usz_back (hlw 3 (by omega) (by omega)).symm
            · skip
              refine RQ.seg 2 (pc' := 104) (L' := [some (.ref 80), some (.int (iI j)), some (.int (iI (law 3))), some (.int (iI 2)), some (.int (iI (msv nw nb W B law 2))), some (.int (iI 3)), some (.int (iI (msv nw nb W B law 2)))]) (st' := [.int (iI 2)]) (g1 := (HW scq2 (usc arq2 87 (usz (arq2 87) 3 (law 3))) tx oc rl ou tl, q)) rfl ?_
              refine RQ.ret rfl rfl ?_
              refine ⟨?_, _, _, rfl, hsq2, ?_⟩
              · have e9 : lw3 (msv nw nb W B law) = ((2, msv nw nb W B law 2) : Int × Int) := by unfold lw3; rw [eq0, eq1, eq2]
                congr 3; unfold sLaws; rw [if_pos (by omega), e9]; first | rw [if_pos (by omega)] | rw [if_neg (by omega)]
              · refine Same.un (k := 87) (Same.tr haq2 (Same.us rfl Same.rf)) ?_
                show usz (arq2 87) 3 (law 3) = ar 87; rw [h8q2]; exact usz_back (hlw 3 (by omega) (by omega)).symm
          · skip
            refine RQ.seg 3 (pc' := 39) (L' := [some (.ref 80), some (.int (iI j)), some (.int (iI (law 3))), some (.int (iI 0)), some (.int (iI (msv nw nb W B law 0))), some (.int (iI 3)), some (.int (iI (msv nw nb W B law 2)))]) (st' := []) (g1 := (HW scq2 arq2 tx oc rl ou tl, q)) rfl ?_
            have eq2 : lw1 ((0, msv nw nb W B law 0) : Int × Int) 2 (msv nw nb W B law 2) = ((0, msv nw nb W B law 0) : Int × Int) := by unfold lw1; first | exact if_pos (by dsimp only; omega) | exact if_neg (by dsimp only; omega)
            refine RQ.seg 7 (pc' := 93) (L' := [some (.ref 80), some (.int (iI j)), some (.int (iI (law 3))), some (.int (iI 0)), some (.int (iI (msv nw nb W B law 0))), some (.int (iI 3)), some (.int (iI (msv nw nb W B law 2)))]) (st' := [.int (iI (law 3)), .int (iI 3), .ref 87]) (g1 := (HW scq2 arq2 tx oc rl ou tl, q)) rfl ?_
            refine RQ.iast (z := 3) (v := (law 3)) (g1 := (HW scq2 (usc arq2 87 (usz (arq2 87) 3 (law 3))) tx oc rl ou tl, q)) rfl rfl rfl rfl (by omega) (by decide) (HWa_87 rfl) ?_
            refine RQ.seg 1 (pc' := 95) (L' := [some (.ref 80), some (.int (iI j)), some (.int (iI (law 3))), some (.int (iI 0)), some (.int (iI (msv nw nb W B law 0))), some (.int (iI 3)), some (.int (iI (msv nw nb W B law 2)))]) (st' := [.int (iI j)]) (g1 := (HW scq2 (usc arq2 87 (usz (arq2 87) 3 (law 3))) tx oc rl ou tl, q)) rfl ?_
            refine RQ.if1 (a := j) rfl rfl rfl (by omega) (fun (h10 : j ≠ 0) => ?_) (fun (h10 : ¬ j ≠ 0) => ?_)
            · skip
              refine RQ.seg 1 (pc' := 104) (L' := [some (.ref 80), some (.int (iI j)), some (.int (iI (law 3))), some (.int (iI 0)), some (.int (iI (msv nw nb W B law 0))), some (.int (iI 3)), some (.int (iI (msv nw nb W B law 2)))]) (st' := [.int (iI (msv nw nb W B law 0))]) (g1 := (HW scq2 (usc arq2 87 (usz (arq2 87) 3 (law 3))) tx oc rl ou tl, q)) rfl ?_
              refine RQ.ret rfl rfl ?_
              refine ⟨?_, _, _, rfl, hsq2, ?_⟩
              · have e9 : lw3 (msv nw nb W B law) = ((0, msv nw nb W B law 0) : Int × Int) := by unfold lw3; rw [eq0, eq1, eq2]
                congr 3; unfold sLaws; rw [if_pos (by omega), e9]; first | rw [if_pos (by omega)] | rw [if_neg (by omega)]
              · refine Same.un (k := 87) (Same.tr haq2 (Same.us rfl Same.rf)) ?_
                show usz (arq2 87) 3 (law 3) = ar 87; rw [h8q2]; exact usz_back (hlw 3 (by omega) (by omega)).symm
            · skip
              refine RQ.seg 2 (pc' := 104) (L' := [some (.ref 80), some (.int (iI j)), some (.int (iI (law 3))), some (.int (iI 0)), some (.int (iI (msv nw nb W B law 0))), some (.int (iI 3)), some (.int (iI (msv nw nb W B law 2)))]) (st' := [.int (iI 0)]) (g1 := (HW scq2 (usc arq2 87 (usz (arq2 87) 3 (law 3))) tx oc rl ou tl, q)) rfl ?_
              refine RQ.ret rfl rfl ?_
              refine ⟨?_, _, _, rfl, hsq2, ?_⟩
              · have e9 : lw3 (msv nw nb W B law) = ((0, msv nw nb W B law 0) : Int × Int) := by unfold lw3; rw [eq0, eq1, eq2]
                congr 3; unfold sLaws; rw [if_pos (by omega), e9]; first | rw [if_pos (by omega)] | rw [if_neg (by omega)]
              · refine Same.un (k := 87) (Same.tr haq2 (Same.us rfl Same.rf)) ?_
                show usz (arq2 87) 3 (law 3) = ar 87; rw [h8q2]; exact usz_back (hlw 3 (by omega) (by omega)).symm
      · skip
        refine RQ.seg 3 (pc' := 39) (L' := [some (.ref 80), some (.int (iI j)), some (.int (iI (law 3))), some (.int (iI (-1))), some (.int (iI (-1))), some (.int (iI 1)), some (.int (iI (msv nw nb W B law 0)))]) (st' := []) (g1 := (HW scq0 arq0 tx oc rl ou tl, q)) rfl ?_
        have eq0 : lw1 ((-1, -1) : Int × Int) 0 (msv nw nb W B law 0) = (((-1), (-1)) : Int × Int) := by unfold lw1; first | exact if_pos (by dsimp only; omega) | exact if_neg (by dsimp only; omega)
        refine RQ.seg 7 (pc' := 52) (L' := [some (.ref 80), some (.int (iI j)), some (.int (iI (law 3))), some (.int (iI (-1))), some (.int (iI (-1))), some (.int (iI 1)), some (.int (iI (msv nw nb W B law 0)))]) (st' := [.int (iI 1), .int (iI 3), .ref 87]) (g1 := (HW scq0 arq0 tx oc rl ou tl, q)) rfl ?_
        refine RQ.iast (z := 3) (v := 1) (g1 := (HW scq0 (usc arq0 87 (usz (arq0 87) 3 1)) tx oc rl ou tl, q)) rfl rfl rfl rfl (by omega) (by decide) (HWa_87 rfl) ?_
        refine RQ.seg 1 (pc' := 54) (L' := [some (.ref 80), some (.int (iI j)), some (.int (iI (law 3))), some (.int (iI (-1))), some (.int (iI (-1))), some (.int (iI 1)), some (.int (iI (msv nw nb W B law 0)))]) (st' := [.ref 80]) (g1 := (HW scq0 (usc arq0 87 (usz (arq0 87) 3 1)) tx oc rl ou tl, q)) rfl ?_
        have hLq1 := lwq_ok hL (q := 1) (by omega)
        refine RQ.callQ rfl rfl ((m_layRows (d := 0) (sc := scq0) (ar := usc arq0 87 (usz (arq0 87) 3 1)) hF hMq0 hPq0 (lw_up hnq0 1) hLq1).up (by omega)) (fun rv g1 hc => ?_)
        obtain ⟨rfl, scq1, arq1, rfl, hsx, hax, hDq1⟩ := hc
        have hsq1 : Same scF sc scq1 := hsq0.tr hsx
        have haq1 : Same lwA ar arq1 := Same.tr haq0 (Same.tr (Same.us rfl Same.rf) (hax.w rfl))
        have hMq1 : FrM (scq1 8024) (scq1 8025) (arq1 85) (arq1 86) nw nb W B := by rw [hsq1 8024 rfl, hsq1 8025 rfl, haq1 85 rfl, haq1 86 rfl]; exact hM
        have hPq1 : PMx nw nb W B (arq1 94) (arq1 95) := by rw [haq1 94 rfl, haq1 95 rfl]; exact hP
        have h8q1 : arq1 87 = usz (ar 87) 3 1 := (hax 87 rfl).trans (by show usz (arq0 87) 3 1 = _; rw [h8q0, usz_uu])
        have hnq1 : ∀ j, 0 ≤ j → j < 4 → j ≠ 3 → arq1 87 j = law j := fun j h0 h1 h2 => by rw [h8q1, usz_n h2]; exact hlw j h0 h1
        refine RQ.seg 2 (pc' := 59) (L' := [some (.ref 80), some (.int (iI j)), some (.int (iI (law 3))), some (.int (iI (-1))), some (.int (iI (-1))), some (.int (iI 1)), some (.int (iI (msv nw nb W B law 0)))]) (st' := [.int (iI 1), .ref 80]) (g1 := (HW scq1 arq1 tx oc rl ou tl, q)) rfl ?_
        have hvq1 : -1 ≤ msv nw nb W B law 1 ∧ msv nw nb W B law 1 ≤ 36 := msr_r (rsv_r hF) _
        refine RQ.call rfl rfl (CallR.up (d := 5) (m_savedInM (d := 0) hF hMq1 hPq1 hDq1 hLq1) (by omega)) ?_
        refine RQ.seg 3 (pc' := 68) (L' := [some (.ref 80), some (.int (iI j)), some (.int (iI (law 3))), some (.int (iI (-1))), some (.int (iI (-1))), some (.int (iI 1)), some (.int (iI (msv nw nb W B law 1)))]) (st' := [.int (iI (-1)), .int (iI (msv nw nb W B law 1))]) (g1 := (HW scq1 arq1 tx oc rl ou tl, q)) rfl ?_
        refine RQ.if2 (a := (msv nw nb W B law 1)) (b := (-1)) rfl rfl rfl rfl (by omega) (by omega) (fun (h11 : (-1) < msv nw nb W B law 1) => ?_) (fun (h11 : ¬ (-1) < msv nw nb W B law 1) => ?_)
        · skip
          refine RQ.seg 6 (pc' := 39) (L' := [some (.ref 80), some (.int (iI j)), some (.int (iI (law 3))), some (.int (iI 1)), some (.int (iI (msv nw nb W B law 1))), some (.int (iI 2)), some (.int (iI (msv nw nb W B law 1)))]) (st' := []) (g1 := (HW scq1 arq1 tx oc rl ou tl, q)) rfl ?_
          have eq1 : lw1 (((-1), (-1)) : Int × Int) 1 (msv nw nb W B law 1) = ((1, msv nw nb W B law 1) : Int × Int) := by unfold lw1; first | exact if_pos (by dsimp only; omega) | exact if_neg (by dsimp only; omega)
          refine RQ.seg 7 (pc' := 52) (L' := [some (.ref 80), some (.int (iI j)), some (.int (iI (law 3))), some (.int (iI 1)), some (.int (iI (msv nw nb W B law 1))), some (.int (iI 2)), some (.int (iI (msv nw nb W B law 1)))]) (st' := [.int (iI 2), .int (iI 3), .ref 87]) (g1 := (HW scq1 arq1 tx oc rl ou tl, q)) rfl ?_
          refine RQ.iast (z := 3) (v := 2) (g1 := (HW scq1 (usc arq1 87 (usz (arq1 87) 3 2)) tx oc rl ou tl, q)) rfl rfl rfl rfl (by omega) (by decide) (HWa_87 rfl) ?_
          refine RQ.seg 1 (pc' := 54) (L' := [some (.ref 80), some (.int (iI j)), some (.int (iI (law 3))), some (.int (iI 1)), some (.int (iI (msv nw nb W B law 1))), some (.int (iI 2)), some (.int (iI (msv nw nb W B law 1)))]) (st' := [.ref 80]) (g1 := (HW scq1 (usc arq1 87 (usz (arq1 87) 3 2)) tx oc rl ou tl, q)) rfl ?_
          have hLq2 := lwq_ok hL (q := 2) (by omega)
          refine RQ.callQ rfl rfl ((m_layRows (d := 0) (sc := scq1) (ar := usc arq1 87 (usz (arq1 87) 3 2)) hF hMq1 hPq1 (lw_up hnq1 2) hLq2).up (by omega)) (fun rv g1 hc => ?_)
          obtain ⟨rfl, scq2, arq2, rfl, hsx, hax, hDq2⟩ := hc
          have hsq2 : Same scF sc scq2 := hsq1.tr hsx
          have haq2 : Same lwA ar arq2 := Same.tr haq1 (Same.tr (Same.us rfl Same.rf) (hax.w rfl))
          have hMq2 : FrM (scq2 8024) (scq2 8025) (arq2 85) (arq2 86) nw nb W B := by rw [hsq2 8024 rfl, hsq2 8025 rfl, haq2 85 rfl, haq2 86 rfl]; exact hM
          have hPq2 : PMx nw nb W B (arq2 94) (arq2 95) := by rw [haq2 94 rfl, haq2 95 rfl]; exact hP
          have h8q2 : arq2 87 = usz (ar 87) 3 2 := (hax 87 rfl).trans (by show usz (arq1 87) 3 2 = _; rw [h8q1, usz_uu])
          have hnq2 : ∀ j, 0 ≤ j → j < 4 → j ≠ 3 → arq2 87 j = law j := fun j h0 h1 h2 => by rw [h8q2, usz_n h2]; exact hlw j h0 h1
          refine RQ.seg 2 (pc' := 59) (L' := [some (.ref 80), some (.int (iI j)), some (.int (iI (law 3))), some (.int (iI 1)), some (.int (iI (msv nw nb W B law 1))), some (.int (iI 2)), some (.int (iI (msv nw nb W B law 1)))]) (st' := [.int (iI 1), .ref 80]) (g1 := (HW scq2 arq2 tx oc rl ou tl, q)) rfl ?_
          have hvq2 : -1 ≤ msv nw nb W B law 2 ∧ msv nw nb W B law 2 ≤ 36 := msr_r (rsv_r hF) _
          refine RQ.call rfl rfl (CallR.up (d := 5) (m_savedInM (d := 0) hF hMq2 hPq2 hDq2 hLq2) (by omega)) ?_
          refine RQ.seg 3 (pc' := 68) (L' := [some (.ref 80), some (.int (iI j)), some (.int (iI (law 3))), some (.int (iI 1)), some (.int (iI (msv nw nb W B law 1))), some (.int (iI 2)), some (.int (iI (msv nw nb W B law 2)))]) (st' := [.int (iI (msv nw nb W B law 1)), .int (iI (msv nw nb W B law 2))]) (g1 := (HW scq2 arq2 tx oc rl ou tl, q)) rfl ?_
          refine RQ.if2 (a := (msv nw nb W B law 2)) (b := (msv nw nb W B law 1)) rfl rfl rfl rfl (by omega) (by omega) (fun (h12 : msv nw nb W B law 1 < msv nw nb W B law 2) => ?_) (fun (h12 : ¬ msv nw nb W B law 1 < msv nw nb W B law 2) => ?_)
          · skip
            refine RQ.seg 6 (pc' := 39) (L' := [some (.ref 80), some (.int (iI j)), some (.int (iI (law 3))), some (.int (iI 2)), some (.int (iI (msv nw nb W B law 2))), some (.int (iI 3)), some (.int (iI (msv nw nb W B law 2)))]) (st' := []) (g1 := (HW scq2 arq2 tx oc rl ou tl, q)) rfl ?_
            have eq2 : lw1 ((1, msv nw nb W B law 1) : Int × Int) 2 (msv nw nb W B law 2) = ((2, msv nw nb W B law 2) : Int × Int) := by unfold lw1; first | exact if_pos (by dsimp only; omega) | exact if_neg (by dsimp only; omega)
            refine RQ.seg 7 (pc' := 93) (L' := [some (.ref 80), some (.int (iI j)), some (.int (iI (law 3))), some (.int (iI 2)), some (.int (iI (msv nw nb W B law 2))), some (.int (iI 3)), some (.int (iI (msv nw nb W B law 2)))]) (st' := [.int (iI (law 3)), .int (iI 3), .ref 87]) (g1 := (HW scq2 arq2 tx oc rl ou tl, q)) rfl ?_
            refine RQ.iast (z := 3) (v := (law 3)) (g1 := (HW scq2 (usc arq2 87 (usz (arq2 87) 3 (law 3))) tx oc rl ou tl, q)) rfl rfl rfl rfl (by omega) (by decide) (HWa_87 rfl) ?_
            refine RQ.seg 1 (pc' := 95) (L' := [some (.ref 80), some (.int (iI j)), some (.int (iI (law 3))), some (.int (iI 2)), some (.int (iI (msv nw nb W B law 2))), some (.int (iI 3)), some (.int (iI (msv nw nb W B law 2)))]) (st' := [.int (iI j)]) (g1 := (HW scq2 (usc arq2 87 (usz (arq2 87) 3 (law 3))) tx oc rl ou tl, q)) rfl ?_
            refine RQ.if1 (a := j) rfl rfl rfl (by omega) (fun (h13 : j ≠ 0) => ?_) (fun (h13 : ¬ j ≠ 0) => ?_)
            · skip
              refine RQ.seg 1 (pc' := 104) (L' := [some (.ref 80), some (.int (iI j)), some (.int (iI (law 3))), some (.int (iI 2)), some (.int (iI (msv nw nb W B law 2))), some (.int (iI 3)), some (.int (iI (msv nw nb W B law 2)))]) (st' := [.int (iI (msv nw nb W B law 2))]) (g1 := (HW scq2 (usc arq2 87 (usz (arq2 87) 3 (law 3))) tx oc rl ou tl, q)) rfl ?_
              refine RQ.ret rfl rfl ?_
              refine ⟨?_, _, _, rfl, hsq2, ?_⟩
              · have e9 : lw3 (msv nw nb W B law) = ((2, msv nw nb W B law 2) : Int × Int) := by unfold lw3; rw [eq0, eq1, eq2]
                congr 3; unfold sLaws; rw [if_pos (by omega), e9]; first | rw [if_pos (by omega)] | rw [if_neg (by omega)]
              · refine Same.un (k := 87) (Same.tr haq2 (Same.us rfl Same.rf)) ?_
                show usz (arq2 87) 3 (law 3) = ar 87; rw [h8q2]; exact usz_back (hlw 3 (by omega) (by omega)).symm
            · skip
              refine RQ.seg 2 (pc' := 104) (L' := [some (.ref 80), some (.int (iI j)), some (.int (iI (law 3))), some (.int (iI 2)), some (.int (iI (msv nw nb W B law 2))), some (.int (iI 3)), some (.int (iI (msv nw nb W B law 2)))]) (st' := [.int (iI 2)]) (g1 := (HW scq2 (usc arq2 87 (usz (arq2 87) 3 (law 3))) tx oc rl ou tl, q)) rfl ?_
              refine RQ.ret rfl rfl ?_
              refine ⟨?_, _, _, rfl, hsq2, ?_⟩
              · have e9 : lw3 (msv nw nb W B law) = ((2, msv nw nb W B law 2) : Int × Int) := by unfold lw3; rw [eq0, eq1, eq2]
                congr 3; unfold sLaws; rw [if_pos (by omega), e9]; first | rw [if_pos (by omega)] | rw [if_neg (by omega)]
              · refine Same.un (k := 87) (Same.tr haq2 (Same.us rfl Same.rf)) ?_
                show usz (arq2 87) 3 (law 3) = ar 87; rw [h8q2]; exact usz_back (hlw 3 (by omega) (by omega)).symm
          · skip
            refine RQ.seg 3 (pc' := 39) (L' := [some (.ref 80), some (.int (iI j)), some (.int (iI (law 3))), some (.int (iI 1)), some (.int (iI (msv nw nb W B law 1))), some (.int (iI 3)), some (.int (iI (msv nw nb W B law 2)))]) (st' := []) (g1 := (HW scq2 arq2 tx oc rl ou tl, q)) rfl ?_
            have eq2 : lw1 ((1, msv nw nb W B law 1) : Int × Int) 2 (msv nw nb W B law 2) = ((1, msv nw nb W B law 1) : Int × Int) := by unfold lw1; first | exact if_pos (by dsimp only; omega) | exact if_neg (by dsimp only; omega)
            refine RQ.seg 7 (pc' := 93) (L' := [some (.ref 80), some (.int (iI j)), some (.int (iI (law 3))), some (.int (iI 1)), some (.int (iI (msv nw nb W B law 1))), some (.int (iI 3)), some (.int (iI (msv nw nb W B law 2)))]) (st' := [.int (iI (law 3)), .int (iI 3), .ref 87]) (g1 := (HW scq2 arq2 tx oc rl ou tl, q)) rfl ?_
            refine RQ.iast (z := 3) (v := (law 3)) (g1 := (HW scq2 (usc arq2 87 (usz (arq2 87) 3 (law 3))) tx oc rl ou tl, q)) rfl rfl rfl rfl (by omega) (by decide) (HWa_87 rfl) ?_
            refine RQ.seg 1 (pc' := 95) (L' := [some (.ref 80), some (.int (iI j)), some (.int (iI (law 3))), some (.int (iI 1)), some (.int (iI (msv nw nb W B law 1))), some (.int (iI 3)), some (.int (iI (msv nw nb W B law 2)))]) (st' := [.int (iI j)]) (g1 := (HW scq2 (usc arq2 87 (usz (arq2 87) 3 (law 3))) tx oc rl ou tl, q)) rfl ?_
            refine RQ.if1 (a := j) rfl rfl rfl (by omega) (fun (h14 : j ≠ 0) => ?_) (fun (h14 : ¬ j ≠ 0) => ?_)
            · skip
              refine RQ.seg 1 (pc' := 104) (L' := [some (.ref 80), some (.int (iI j)), some (.int (iI (law 3))), some (.int (iI 1)), some (.int (iI (msv nw nb W B law 1))), some (.int (iI 3)), some (.int (iI (msv nw nb W B law 2)))]) (st' := [.int (iI (msv nw nb W B law 1))]) (g1 := (HW scq2 (usc arq2 87 (usz (arq2 87) 3 (law 3))) tx oc rl ou tl, q)) rfl ?_
              refine RQ.ret rfl rfl ?_
              refine ⟨?_, _, _, rfl, hsq2, ?_⟩
              · have e9 : lw3 (msv nw nb W B law) = ((1, msv nw nb W B law 1) : Int × Int) := by unfold lw3; rw [eq0, eq1, eq2]
                congr 3; unfold sLaws; rw [if_pos (by omega), e9]; first | rw [if_pos (by omega)] | rw [if_neg (by omega)]
              · refine Same.un (k := 87) (Same.tr haq2 (Same.us rfl Same.rf)) ?_
                show usz (arq2 87) 3 (law 3) = ar 87; rw [h8q2]; exact usz_back (hlw 3 (by omega) (by omega)).symm
            · skip
              refine RQ.seg 2 (pc' := 104) (L' := [some (.ref 80), some (.int (iI j)), some (.int (iI (law 3))), some (.int (iI 1)), some (.int (iI (msv nw nb W B law 1))), some (.int (iI 3)), some (.int (iI (msv nw nb W B law 2)))]) (st' := [.int (iI 1)]) (g1 := (HW scq2 (usc arq2 87 (usz (arq2 87) 3 (law 3))) tx oc rl ou tl, q)) rfl ?_
              refine RQ.ret rfl rfl ?_
              refine ⟨?_, _, _, rfl, hsq2, ?_⟩
              · have e9 : lw3 (msv nw nb W B law) = ((1, msv nw nb W B law 1) : Int × Int) := by unfold lw3; rw [eq0, eq1, eq2]
                congr 3; unfold sLaws; rw [if_pos (by omega), e9]; first | rw [if_pos (by omega)] | rw [if_neg (by omega)]
              · refine Same.un (k := 87) (Same.tr haq2 (Same.us rfl Same.rf)) ?_
                show usz (arq2 87) 3 (law 3) = ar 87; rw [h8q2]; exact usz_back (hlw 3 (by omega) (by omega)).symm
        · skip
          refine RQ.seg 3 (pc' := 39) (L' := [some (.ref 80), some (.int (iI j)), some (.int (iI (law 3))), some (.int (iI (-1))), some (.int (iI (-1))), some (.int (iI 2)), some (.int (iI (msv nw nb W B law 1)))]) (st' := []) (g1 := (HW scq1 arq1 tx oc rl ou tl, q)) rfl ?_
          have eq1 : lw1 (((-1), (-1)) : Int × Int) 1 (msv nw nb W B law 1) = (((-1), (-1)) : Int × Int) := by unfold lw1; first | exact if_pos (by dsimp only; omega) | exact if_neg (by dsimp only; omega)
          refine RQ.seg 7 (pc' := 52) (L' := [some (.ref 80), some (.int (iI j)), some (.int (iI (law 3))), some (.int (iI (-1))), some (.int (iI (-1))), some (.int (iI 2)), some (.int (iI (msv nw nb W B law 1)))]) (st' := [.int (iI 2), .int (iI 3), .ref 87]) (g1 := (HW scq1 arq1 tx oc rl ou tl, q)) rfl ?_
          refine RQ.iast (z := 3) (v := 2) (g1 := (HW scq1 (usc arq1 87 (usz (arq1 87) 3 2)) tx oc rl ou tl, q)) rfl rfl rfl rfl (by omega) (by decide) (HWa_87 rfl) ?_
          refine RQ.seg 1 (pc' := 54) (L' := [some (.ref 80), some (.int (iI j)), some (.int (iI (law 3))), some (.int (iI (-1))), some (.int (iI (-1))), some (.int (iI 2)), some (.int (iI (msv nw nb W B law 1)))]) (st' := [.ref 80]) (g1 := (HW scq1 (usc arq1 87 (usz (arq1 87) 3 2)) tx oc rl ou tl, q)) rfl ?_
          have hLq2 := lwq_ok hL (q := 2) (by omega)
          refine RQ.callQ rfl rfl ((m_layRows (d := 0) (sc := scq1) (ar := usc arq1 87 (usz (arq1 87) 3 2)) hF hMq1 hPq1 (lw_up hnq1 2) hLq2).up (by omega)) (fun rv g1 hc => ?_)
          obtain ⟨rfl, scq2, arq2, rfl, hsx, hax, hDq2⟩ := hc
          have hsq2 : Same scF sc scq2 := hsq1.tr hsx
          have haq2 : Same lwA ar arq2 := Same.tr haq1 (Same.tr (Same.us rfl Same.rf) (hax.w rfl))
          have hMq2 : FrM (scq2 8024) (scq2 8025) (arq2 85) (arq2 86) nw nb W B := by rw [hsq2 8024 rfl, hsq2 8025 rfl, haq2 85 rfl, haq2 86 rfl]; exact hM
          have hPq2 : PMx nw nb W B (arq2 94) (arq2 95) := by rw [haq2 94 rfl, haq2 95 rfl]; exact hP
          have h8q2 : arq2 87 = usz (ar 87) 3 2 := (hax 87 rfl).trans (by show usz (arq1 87) 3 2 = _; rw [h8q1, usz_uu])
          have hnq2 : ∀ j, 0 ≤ j → j < 4 → j ≠ 3 → arq2 87 j = law j := fun j h0 h1 h2 => by rw [h8q2, usz_n h2]; exact hlw j h0 h1
          refine RQ.seg 2 (pc' := 59) (L' := [some (.ref 80), some (.int (iI j)), some (.int (iI (law 3))), some (.int (iI (-1))), some (.int (iI (-1))), some (.int (iI 2)), some (.int (iI (msv nw nb W B law 1)))]) (st' := [.int (iI 1), .ref 80]) (g1 := (HW scq2 arq2 tx oc rl ou tl, q)) rfl ?_
          have hvq2 : -1 ≤ msv nw nb W B law 2 ∧ msv nw nb W B law 2 ≤ 36 := msr_r (rsv_r hF) _
          refine RQ.call rfl rfl (CallR.up (d := 5) (m_savedInM (d := 0) hF hMq2 hPq2 hDq2 hLq2) (by omega)) ?_
          refine RQ.seg 3 (pc' := 68) (L' := [some (.ref 80), some (.int (iI j)), some (.int (iI (law 3))), some (.int (iI (-1))), some (.int (iI (-1))), some (.int (iI 2)), some (.int (iI (msv nw nb W B law 2)))]) (st' := [.int (iI (-1)), .int (iI (msv nw nb W B law 2))]) (g1 := (HW scq2 arq2 tx oc rl ou tl, q)) rfl ?_
          refine RQ.if2 (a := (msv nw nb W B law 2)) (b := (-1)) rfl rfl rfl rfl (by omega) (by omega) (fun (h15 : (-1) < msv nw nb W B law 2) => ?_) (fun (h15 : ¬ (-1) < msv nw nb W B law 2) => ?_)
          · skip
            refine RQ.seg 6 (pc' := 39) (L' := [some (.ref 80), some (.int (iI j)), some (.int (iI (law 3))), some (.int (iI 2)), some (.int (iI (msv nw nb W B law 2))), some (.int (iI 3)), some (.int (iI (msv nw nb W B law 2)))]) (st' := []) (g1 := (HW scq2 arq2 tx oc rl ou tl, q)) rfl ?_
            have eq2 : lw1 (((-1), (-1)) : Int × Int) 2 (msv nw nb W B law 2) = ((2, msv nw nb W B law 2) : Int × Int) := by unfold lw1; first | exact if_pos (by dsimp only; omega) | exact if_neg (by dsimp only; omega)
            refine RQ.seg 7 (pc' := 93) (L' := [some (.ref 80), some (.int (iI j)), some (.int (iI (law 3))), some (.int (iI 2)), some (.int (iI (msv nw nb W B law 2))), some (.int (iI 3)), some (.int (iI (msv nw nb W B law 2)))]) (st' := [.int (iI (law 3)), .int (iI 3), .ref 87]) (g1 := (HW scq2 arq2 tx oc rl ou tl, q)) rfl ?_
            refine RQ.iast (z := 3) (v := (law 3)) (g1 := (HW scq2 (usc arq2 87 (usz (arq2 87) 3 (law 3))) tx oc rl ou tl, q)) rfl rfl rfl rfl (by omega) (by decide) (HWa_87 rfl) ?_
            refine RQ.seg 1 (pc' := 95) (L' := [some (.ref 80), some (.int (iI j)), some (.int (iI (law 3))), some (.int (iI 2)), some (.int (iI (msv nw nb W B law 2))), some (.int (iI 3)), some (.int (iI (msv nw nb W B law 2)))]) (st' := [.int (iI j)]) (g1 := (HW scq2 (usc arq2 87 (usz (arq2 87) 3 (law 3))) tx oc rl ou tl, q)) rfl ?_
            refine RQ.if1 (a := j) rfl rfl rfl (by omega) (fun (h16 : j ≠ 0) => ?_) (fun (h16 : ¬ j ≠ 0) => ?_)
            · skip
              refine RQ.seg 1 (pc' := 104) (L' := [some (.ref 80), some (.int (iI j)), some (.int (iI (law 3))), some (.int (iI 2)), some (.int (iI (msv nw nb W B law 2))), some (.int (iI 3)), some (.int (iI (msv nw nb W B law 2)))]) (st' := [.int (iI (msv nw nb W B law 2))]) (g1 := (HW scq2 (usc arq2 87 (usz (arq2 87) 3 (law 3))) tx oc rl ou tl, q)) rfl ?_
              refine RQ.ret rfl rfl ?_
              refine ⟨?_, _, _, rfl, hsq2, ?_⟩
              · have e9 : lw3 (msv nw nb W B law) = ((2, msv nw nb W B law 2) : Int × Int) := by unfold lw3; rw [eq0, eq1, eq2]
                congr 3; unfold sLaws; rw [if_pos (by omega), e9]; first | rw [if_pos (by omega)] | rw [if_neg (by omega)]
              · refine Same.un (k := 87) (Same.tr haq2 (Same.us rfl Same.rf)) ?_
                show usz (arq2 87) 3 (law 3) = ar 87; rw [h8q2]; exact usz_back (hlw 3 (by omega) (by omega)).symm
            · skip
              refine RQ.seg 2 (pc' := 104) (L' := [some (.ref 80), some (.int (iI j)), some (.int (iI (law 3))), some (.int (iI 2)), some (.int (iI (msv nw nb W B law 2))), some (.int (iI 3)), some (.int (iI (msv nw nb W B law 2)))]) (st' := [.int (iI 2)]) (g1 := (HW scq2 (usc arq2 87 (usz (arq2 87) 3 (law 3))) tx oc rl ou tl, q)) rfl ?_
              refine RQ.ret rfl rfl ?_
              refine ⟨?_, _, _, rfl, hsq2, ?_⟩
              · have e9 : lw3 (msv nw nb W B law) = ((2, msv nw nb W B law 2) : Int × Int) := by unfold lw3; rw [eq0, eq1, eq2]
                congr 3; unfold sLaws; rw [if_pos (by omega), e9]; first | rw [if_pos (by omega)] | rw [if_neg (by omega)]
              · refine Same.un (k := 87) (Same.tr haq2 (Same.us rfl Same.rf)) ?_
                show usz (arq2 87) 3 (law 3) = ar 87; rw [h8q2]; exact usz_back (hlw 3 (by omega) (by omega)).symm
          · skip
            refine RQ.seg 3 (pc' := 39) (L' := [some (.ref 80), some (.int (iI j)), some (.int (iI (law 3))), some (.int (iI (-1))), some (.int (iI (-1))), some (.int (iI 3)), some (.int (iI (msv nw nb W B law 2)))]) (st' := []) (g1 := (HW scq2 arq2 tx oc rl ou tl, q)) rfl ?_
            have eq2 : lw1 (((-1), (-1)) : Int × Int) 2 (msv nw nb W B law 2) = (((-1), (-1)) : Int × Int) := by unfold lw1; first | exact if_pos (by dsimp only; omega) | exact if_neg (by dsimp only; omega)
            refine RQ.seg 7 (pc' := 93) (L' := [some (.ref 80), some (.int (iI j)), some (.int (iI (law 3))), some (.int (iI (-1))), some (.int (iI (-1))), some (.int (iI 3)), some (.int (iI (msv nw nb W B law 2)))]) (st' := [.int (iI (law 3)), .int (iI 3), .ref 87]) (g1 := (HW scq2 arq2 tx oc rl ou tl, q)) rfl ?_
            refine RQ.iast (z := 3) (v := (law 3)) (g1 := (HW scq2 (usc arq2 87 (usz (arq2 87) 3 (law 3))) tx oc rl ou tl, q)) rfl rfl rfl rfl (by omega) (by decide) (HWa_87 rfl) ?_
            refine RQ.seg 1 (pc' := 95) (L' := [some (.ref 80), some (.int (iI j)), some (.int (iI (law 3))), some (.int (iI (-1))), some (.int (iI (-1))), some (.int (iI 3)), some (.int (iI (msv nw nb W B law 2)))]) (st' := [.int (iI j)]) (g1 := (HW scq2 (usc arq2 87 (usz (arq2 87) 3 (law 3))) tx oc rl ou tl, q)) rfl ?_
            refine RQ.if1 (a := j) rfl rfl rfl (by omega) (fun (h17 : j ≠ 0) => ?_) (fun (h17 : ¬ j ≠ 0) => ?_)
            · skip
              refine RQ.seg 1 (pc' := 104) (L' := [some (.ref 80), some (.int (iI j)), some (.int (iI (law 3))), some (.int (iI (-1))), some (.int (iI (-1))), some (.int (iI 3)), some (.int (iI (msv nw nb W B law 2)))]) (st' := [.int (iI (-1))]) (g1 := (HW scq2 (usc arq2 87 (usz (arq2 87) 3 (law 3))) tx oc rl ou tl, q)) rfl ?_
              refine RQ.ret rfl rfl ?_
              refine ⟨?_, _, _, rfl, hsq2, ?_⟩
              · have e9 : lw3 (msv nw nb W B law) = (((-1), (-1)) : Int × Int) := by unfold lw3; rw [eq0, eq1, eq2]
                congr 3; unfold sLaws; rw [if_pos (by omega), e9]; first | rw [if_pos (by omega)] | rw [if_neg (by omega)]
              · refine Same.un (k := 87) (Same.tr haq2 (Same.us rfl Same.rf)) ?_
                show usz (arq2 87) 3 (law 3) = ar 87; rw [h8q2]; exact usz_back (hlw 3 (by omega) (by omega)).symm
            · skip
              refine RQ.seg 2 (pc' := 104) (L' := [some (.ref 80), some (.int (iI j)), some (.int (iI (law 3))), some (.int (iI (-1))), some (.int (iI (-1))), some (.int (iI 3)), some (.int (iI (msv nw nb W B law 2)))]) (st' := [.int (iI (-1))]) (g1 := (HW scq2 (usc arq2 87 (usz (arq2 87) 3 (law 3))) tx oc rl ou tl, q)) rfl ?_
              refine RQ.ret rfl rfl ?_
              refine ⟨?_, _, _, rfl, hsq2, ?_⟩
              · have e9 : lw3 (msv nw nb W B law) = (((-1), (-1)) : Int × Int) := by unfold lw3; rw [eq0, eq1, eq2]
                congr 3; unfold sLaws; rw [if_pos (by omega), e9]; first | rw [if_pos (by omega)] | rw [if_neg (by omega)]
              · refine Same.un (k := 87) (Same.tr haq2 (Same.us rfl Same.rf)) ?_
                show usz (arq2 87) 3 (law 3) = ar 87; rw [h8q2]; exact usz_back (hlw 3 (by omega) (by omega)).symm
    · skip
      refine RQ.call rfl rfl (m_isIn_f (by omega) (by omega) (by omega) h2) ?_
      refine RQ.seg 2 (pc' := 23) (L' := [some (.ref 80), some (.int (iI j)), none, none, none, none, none]) (st' := [.int (iI (-1))]) (g1 := (HW (usc sc 8000 0) ar tx oc rl ou tl, q)) rfl ?_
      refine RQ.ret rfl rfl ?_
      refine ⟨?_, _, _, rfl, (by repeat (first | exact Same.rf | refine Same.us rfl ?_)), (by repeat (first | exact Same.rf | refine Same.us rfl ?_))⟩
      congr 3; unfold sLaws; rw [if_neg (by omega)]
