/-! rests of the reference, by wip/tools -/
/-! rests, most, loss, laws, bribe of the reference -/
def sRests (nw nb : Int) (W B : Int → Int → Int) (law : Int → Int) (i : Int) : Int := if 0 < nb then pik (rsf nw nb W B law) (fun k => rnm (PI nw nb W B k) nb.toNat) i (t3 (mny nw nb W B)).toNat 0 0 else -1
def sMost (nw nb : Int) (W B : Int → Int → Int) (j : Int) : Int := if 0 < nb ∧ 0 ≤ j ∧ j ≤ 1 then (if j = 0 then rnm (PI nw nb W B (amx (rsv nw nb W B) (t3 (mny nw nb W B)).toNat)) nb.toNat else rsv nw nb W B (amx (rsv nw nb W B) (t3 (mny nw nb W B)).toNat)) else -1
def lsv (nw nb : Int) (W B : Int → Int → Int) (law : Int → Int) : Int := lsr (rsf nw nb W B law) (rsv nw nb W B) (t3 (mny nw nb W B)).toNat
def msv (nw nb : Int) (W B : Int → Int → Int) (law : Int → Int) (q : Int) : Int := msr (rsf nw nb W B (lwq law q)) (rsv nw nb W B) (t3 (mny nw nb W B)).toNat
def sLoss (nw nb : Int) (W B : Int → Int → Int) (law : Int → Int) : Int := if 0 < nb then (if lsv nw nb W B law = -1 then -1000000 else rsv nw nb W B (amx (rsv nw nb W B) (t3 (mny nw nb W B)).toNat) - lsv nw nb W B law) else -1000000
def lw1 (s : Int × Int) (q v : Int) : Int × Int := if s.2 < v then (q, v) else s
def lw3 (v : Int → Int) : Int × Int := lw1 (lw1 (lw1 (-1, -1) 0 (v 0)) 1 (v 1)) 2 (v 2)
def sLaws (nw nb : Int) (W B : Int → Int → Int) (law : Int → Int) (j : Int) : Int := if 0 < nb ∧ 0 ≤ j ∧ j ≤ 1 then (if j = 0 then (lw3 (msv nw nb W B law)).1 else (lw3 (msv nw nb W B law)).2) else -1
def sBribe (nw nb : Int) (W B : Int → Int → Int) (law : Int → Int) : Int := if 0 < nb then bbn (rsv nw nb W B) (pyv nw nb W B law) (rsv nw nb W B (amx (rsv nw nb W B) (t3 (mny nw nb W B)).toNat)) (t3 (mny nw nb W B)).toNat else -1
theorem LyR.sm {nw nb : Int} {W B : Int → Int → Int} {law : Int → Int} {sc sc' : Nat → Int} {ar ar' : Nat → Int → Int} (hs : sc' 8052 = sc 8052) (h7 : ar' 107 = ar 107) (h8 : ar' 108 = ar 108) (h9 : ar' 109 = ar 109) (h10 : ar' 110 = ar 110) (h : LyR nw nb W B law sc ar) : LyR nw nb W B law sc' ar' := by
  unfold LyR LyD
  rw [hs, h7, h8, h9, h10]
  exact h
theorem usz_back {f : Int → Int} {k v w : Int} (h : w = f k) : usz (usz f k v) k w = f := by
  funext j
  by_cases e : j = k
  · subst e; rw [usz_s]; exact h
  · rw [usz_n e, usz_n e]
theorem usz_uu {f : Int → Int} {k v w : Int} : usz (usz f k v) k w = usz f k w := by
  funext j
  by_cases e : j = k
  · subst e; rw [usz_s, usz_s]
  · rw [usz_n e, usz_n e, usz_n e]
theorem m_ir_k {K : PK} {d : Nat} {sc : Nat → Int} {ar : Nat → Int → Int} {tx oc : Nat} {rl : Nat → Option Nat} {ou : Nat → Int64} {tl : List PO} {q : Nat × Nat} {Q : Option Value → PG → Prop} {i : Int} {nw nb : Int} {W B : Int → Int → Int} (hF : FrOK nw nb W B) (hM : FrM (sc 8024) (sc 8025) (ar 85) (ar 86) nw nb W B) (hP : PMx nw nb W B (ar 94) (ar 95)) {law : Int → Int} (hD : LyR nw nb W B law sc ar) (hL : LwOK law) (hi : 0 ≤ i ∧ i < t3 (mny nw nb W B)) {b : Nat} (hb : (b : Int) < nb) (hq : Q (some (.int (iI (rsf nw nb W B law i)))) (HW sc ar tx oc rl ou tl, q)) (hk : rkn nw nb W B law i (b : Int) (mny nw nb W B (b : Int)).toNat = true → RQ K (d + 3) 11 false (some .boolean) cd208 79 [some (.ref 80), some (.int (iI i)), some (.int (iI (b : Int))), some (.int (iI (i - x3 (mny nw nb W B) i (b : Int) * s3 (mny nw nb W B) (b : Int)))), some (.int (iI (mny nw nb W B (b : Int))))] [] (HW sc ar tx oc rl ou tl, q) Q) : ∀ (m k : Nat) (hm : (k : Int) + m = mny nw nb W B (b : Int)) (hr : rkn nw nb W B law i (b : Int) k = true), RQ K (d + 3) 11 false (some .boolean) cd208 28 [some (.ref 80), some (.int (iI i)), some (.int (iI (b : Int))), some (.int (iI (i - x3 (mny nw nb W B) i (b : Int) * s3 (mny nw nb W B) (b : Int)))), some (.int (iI (k : Int)))] [] (HW sc ar tx oc rl ou tl, q) Q
  | 0, k, hm, hr => by
    have hn := hF.1
    have hm1 := hM.1
    have hm2 := hM.2.1
    have hB := mny_b (nw := nw) (nb := nb) (W := W) (B := B) hF.1.2.1
    have ht3 := t3_r hB
    have hrm : sc 8052 = t3 (mny nw nb W B) := hD.1
    have hm3 := hB (b : Int) (by omega) (by omega)
    refine RQ.seg 4 (pc' := 35) (L' := [some (.ref 80), some (.int (iI i)), some (.int (iI (b : Int))), some (.int (iI (i - x3 (mny nw nb W B) i (b : Int) * s3 (mny nw nb W B) (b : Int)))), some (.int (iI (k : Int)))]) (st' := [.int (iI (b : Int)), .ref 95, .int (iI (k : Int))]) (g1 := (HW sc ar tx oc rl ou tl, q)) rfl ?_
    refine RQ.ialdv (z := (b : Int)) (v := (mny nw nb W B (b : Int))) rfl rfl rfl (by omega) (by decide) ((hP (b : Int) (by omega) (by omega)).1.trans (mny_t (by omega)).symm) ?_
    refine RQ.if2 (a := (k : Int)) (b := (mny nw nb W B (b : Int))) rfl rfl rfl rfl (by omega) (by omega) (fun _ => ?_) (fun (q : ¬ mny nw nb W B (b : Int) ≤ (k : Int)) => absurd (show mny nw nb W B (b : Int) ≤ (k : Int) from by omega) q)
    have e9 : mny nw nb W B (b : Int) = (k : Int) := by omega
    rw [e9, Int.toNat_natCast] at hk
    exact hk hr
  | m + 1, k, hm, hr => by
    have hn := hF.1
    have hm1 := hM.1
    have hm2 := hM.2.1
    have hB := mny_b (nw := nw) (nb := nb) (W := W) (B := B) hF.1.2.1
    have ht3 := t3_r hB
    have hrm : sc 8052 = t3 (mny nw nb W B) := hD.1
    have hm3 := hB (b : Int) (by omega) (by omega)
    have hnr : 0 ≤ i - x3 (mny nw nb W B) i (b : Int) * s3 (mny nw nb W B) (b : Int) + (k : Int) * s3 (mny nw nb W B) (b : Int) ∧ i - x3 (mny nw nb W B) i (b : Int) * s3 (mny nw nb W B) (b : Int) + (k : Int) * s3 (mny nw nb W B) (b : Int) < t3 (mny nw nb W B) := (n3_x hB hi (b := (b : Int)) (k := (k : Int)) (c := 0) (by omega) (by omega) (by omega)).1
    have hg1 := rgn_r hF hL i (b := (b : Int)) (by omega)
    have hg2 := rgn_r hF hL (nbr nw nb W B i (b : Int) (k : Int)) (b := (b : Int)) (by omega)
    refine RQ.seg 4 (pc' := 35) (L' := [some (.ref 80), some (.int (iI i)), some (.int (iI (b : Int))), some (.int (iI (i - x3 (mny nw nb W B) i (b : Int) * s3 (mny nw nb W B) (b : Int)))), some (.int (iI (k : Int)))]) (st' := [.int (iI (b : Int)), .ref 95, .int (iI (k : Int))]) (g1 := (HW sc ar tx oc rl ou tl, q)) rfl ?_
    refine RQ.ialdv (z := (b : Int)) (v := (mny nw nb W B (b : Int))) rfl rfl rfl (by omega) (by decide) ((hP (b : Int) (by omega) (by omega)).1.trans (mny_t (by omega)).symm) ?_
    refine RQ.if2 (a := (k : Int)) (b := (mny nw nb W B (b : Int))) rfl rfl rfl rfl (by omega) (by omega) (fun (q : mny nw nb W B (b : Int) ≤ (k : Int)) => absurd q (show ¬ mny nw nb W B (b : Int) ≤ (k : Int) from by omega)) (fun _ => ?_)
    refine RQ.seg 7 (pc' := 49) (L' := [some (.ref 80), some (.int (iI i)), some (.int (iI (b : Int))), some (.int (iI (i - x3 (mny nw nb W B) i (b : Int) * s3 (mny nw nb W B) (b : Int)))), some (.int (iI (k : Int)))]) (st' := [.int (iI (b : Int)), .ref 80, .int (iI (k : Int)), .int (iI (i - x3 (mny nw nb W B) i (b : Int) * s3 (mny nw nb W B) (b : Int))), .int (iI 3), .ref 107]) (g1 := (HW sc ar tx oc rl ou tl, q)) rfl ?_
    refine RQ.call rfl rfl (CallR.up (d := 1) (m_stride (d := 0) (b := (b : Int)) hF hM hP (by omega)) (by omega)) ?_
    refine RQ.seg 5 (pc' := 57) (L' := [some (.ref 80), some (.int (iI i)), some (.int (iI (b : Int))), some (.int (iI (i - x3 (mny nw nb W B) i (b : Int) * s3 (mny nw nb W B) (b : Int)))), some (.int (iI (k : Int)))]) (st' := [.int (((iI 3) * ((iI (i - x3 (mny nw nb W B) i (b : Int) * s3 (mny nw nb W B) (b : Int))) + ((iI (k : Int)) * (iI (s3 (mny nw nb W B) (b : Int)))))) + (iI (b : Int))), .ref 107]) (g1 := (HW sc ar tx oc rl ou tl, q)) rfl ?_
    refine RQ.ialdv (z := (3 * (i - x3 (mny nw nb W B) i (b : Int) * s3 (mny nw nb W B) (b : Int) + ((k : Int) * (s3 (mny nw nb W B) (b : Int)))) + (b : Int))) (v := (rgn nw nb W B law (nbr nw nb W B i (b : Int) (k : Int)) (b : Int))) rfl (by simp only [iI_add, iI_sub, iI_mul, iI_neg]) rfl (by omega) (by decide) ((hD.2 (nbr nw nb W B i (b : Int) (k : Int)) (by exact hnr.1) (by exact hnr.2)).2.2.2 (b : Int) (by omega) (by omega)) ?_
    refine RQ.seg 7 (pc' := 67) (L' := [some (.ref 80), some (.int (iI i)), some (.int (iI (b : Int))), some (.int (iI (i - x3 (mny nw nb W B) i (b : Int) * s3 (mny nw nb W B) (b : Int)))), some (.int (iI (k : Int)))]) (st' := [.int (((iI 3) * (iI i)) + (iI (b : Int))), .ref 107, .int (iI (rgn nw nb W B law (nbr nw nb W B i (b : Int) (k : Int)) (b : Int)))]) (g1 := (HW sc ar tx oc rl ou tl, q)) rfl ?_
    refine RQ.ialdv (z := (3 * i + (b : Int))) (v := (rgn nw nb W B law i (b : Int))) rfl (by simp only [iI_add, iI_sub, iI_mul, iI_neg]) rfl (by omega) (by decide) ((hD.2 i (by omega) (by omega)).2.2.2 (b : Int) (by omega) (by omega)) ?_
    refine RQ.if2 (a := (rgn nw nb W B law (nbr nw nb W B i (b : Int) (k : Int)) (b : Int))) (b := (rgn nw nb W B law i (b : Int))) rfl rfl rfl rfl (by omega) (by omega) (fun (h2 : rgn nw nb W B law (nbr nw nb W B i (b : Int) (k : Int)) (b : Int) ≤ rgn nw nb W B law i (b : Int)) => ?_) (fun (h2 : ¬ rgn nw nb W B law (nbr nw nb W B i (b : Int) (k : Int)) (b : Int) ≤ rgn nw nb W B law i (b : Int)) => ?_)
    · skip
      refine RQ.seg 2 (pc' := 28) (L' := [some (.ref 80), some (.int (iI i)), some (.int (iI (b : Int))), some (.int (iI (i - x3 (mny nw nb W B) i (b : Int) * s3 (mny nw nb W B) (b : Int)))), some (.int ((iI (k : Int)) + (iI 1)))]) (st' := []) (g1 := (HW sc ar tx oc rl ou tl, q)) rfl ?_
      refine RQ.to (L' := [some (.ref 80), some (.int (iI i)), some (.int (iI (b : Int))), some (.int (iI (i - x3 (mny nw nb W B) i (b : Int) * s3 (mny nw nb W B) (b : Int)))), some (.int (iI ((k : Int) + 1)))]) (st' := []) (by simp only [iI_add, iI_sub, iI_mul, iI_neg]) rfl ?_
      refine m_ir_k hF hM hP hD hL hi hb hq hk m (k + 1) (by omega) ?_
      rw [rkn, hr, Bool.true_and]; exact decide_eq_true (by omega)
    · skip
      refine RQ.seg 1 (pc' := 72) (L' := [some (.ref 80), some (.int (iI i)), some (.int (iI (b : Int))), some (.int (iI (i - x3 (mny nw nb W B) i (b : Int) * s3 (mny nw nb W B) (b : Int)))), some (.int (iI (k : Int)))]) (st' := [.int (iI 0)]) (g1 := (HW sc ar tx oc rl ou tl, q)) rfl ?_
      refine RQ.ret rfl rfl ?_
      rw [rsf_0 (b := b) (k := k) hb (by omega) (by omega)] at hq
      exact hq
theorem m_ir_b {K : PK} {d : Nat} {sc : Nat → Int} {ar : Nat → Int → Int} {tx oc : Nat} {rl : Nat → Option Nat} {ou : Nat → Int64} {tl : List PO} {q : Nat × Nat} {Q : Option Value → PG → Prop} {i : Int} {nw nb : Int} {W B : Int → Int → Int} (hF : FrOK nw nb W B) (hM : FrM (sc 8024) (sc 8025) (ar 85) (ar 86) nw nb W B) (hP : PMx nw nb W B (ar 94) (ar 95)) {law : Int → Int} (hD : LyR nw nb W B law sc ar) (hL : LwOK law) (hi : 0 ≤ i ∧ i < t3 (mny nw nb W B)) (hq : Q (some (.int (iI (rsf nw nb W B law i)))) (HW sc ar tx oc rl ou tl, q)) : ∀ (m b : Nat) (e3 e4 : Option Value) (hm : (b : Int) + m = nb) (hr : rsn nw nb W B law i b = true), RQ K (d + 3) 11 false (some .boolean) cd208 2 [some (.ref 80), some (.int (iI i)), some (.int (iI (b : Int))), e3, e4] [] (HW sc ar tx oc rl ou tl, q) Q
  | 0, b, e3, e4, hm, hr => by
    have hn := hF.1
    have hm1 := hM.1
    have hm2 := hM.2.1
    have hB := mny_b (nw := nw) (nb := nb) (W := W) (B := B) hF.1.2.1
    have ht3 := t3_r hB
    have hrm : sc 8052 = t3 (mny nw nb W B) := hD.1
    refine RQ.seg 3 (pc' := 7) (L' := [some (.ref 80), some (.int (iI i)), some (.int (iI (b : Int))), e3, e4]) (st' := [.int (iI (sc 8025)), .int (iI (b : Int))]) (g1 := (HW sc ar tx oc rl ou tl, q)) rfl ?_
    refine RQ.if2 (a := (b : Int)) (b := (sc 8025)) rfl rfl rfl rfl (by omega) (by omega) (fun _ => ?_) (fun (q : ¬ sc 8025 ≤ (b : Int)) => absurd (show sc 8025 ≤ (b : Int) from by omega) q)
    refine RQ.seg 1 (pc' := 86) (L' := [some (.ref 80), some (.int (iI i)), some (.int (iI (b : Int))), e3, e4]) (st' := [.int (iI 1)]) (g1 := (HW sc ar tx oc rl ou tl, q)) rfl ?_
    refine RQ.ret rfl rfl ?_
    have e9 : rsf nw nb W B law i = 1 := by unfold rsf; rw [show nb.toNat = b by omega]; exact if_pos hr
    rw [e9] at hq
    exact hq
  | m + 1, b, e3, e4, hm, hr => by
    have hn := hF.1
    have hm1 := hM.1
    have hm2 := hM.2.1
    have hB := mny_b (nw := nw) (nb := nb) (W := W) (B := B) hF.1.2.1
    have ht3 := t3_r hB
    have hrm : sc 8052 = t3 (mny nw nb W B) := hD.1
    have hm3 := hB (b : Int) (by omega) (by omega)
    refine RQ.seg 3 (pc' := 7) (L' := [some (.ref 80), some (.int (iI i)), some (.int (iI (b : Int))), e3, e4]) (st' := [.int (iI (sc 8025)), .int (iI (b : Int))]) (g1 := (HW sc ar tx oc rl ou tl, q)) rfl ?_
    refine RQ.if2 (a := (b : Int)) (b := (sc 8025)) rfl rfl rfl rfl (by omega) (by omega) (fun (q : sc 8025 ≤ (b : Int)) => absurd q (show ¬ sc 8025 ≤ (b : Int) from by omega)) (fun _ => ?_)
    refine RQ.seg 4 (pc' := 14) (L' := [some (.ref 80), some (.int (iI i)), some (.int (iI (b : Int))), e3, e4]) (st' := [.int (iI (b : Int)), .int (iI i), .ref 80, .int (iI i)]) (g1 := (HW sc ar tx oc rl ou tl, q)) rfl ?_
    refine RQ.call rfl rfl (CallR.up (d := 2) (m_putAt (d := 0) (i := i) (b := (b : Int)) hF hM hP (by omega) (by omega)) (by omega)) ?_
    refine RQ.seg 2 (pc' := 19) (L' := [some (.ref 80), some (.int (iI i)), some (.int (iI (b : Int))), e3, e4]) (st' := [.int (iI (b : Int)), .ref 80, .int (iI (x3 (mny nw nb W B) i (b : Int))), .int (iI i)]) (g1 := (HW sc ar tx oc rl ou tl, q)) rfl ?_
    refine RQ.call rfl rfl (CallR.up (d := 1) (m_stride (d := 0) (b := (b : Int)) hF hM hP (by omega)) (by omega)) ?_
    refine RQ.seg 5 (pc' := 28) (L' := [some (.ref 80), some (.int (iI i)), some (.int (iI (b : Int))), some (.int ((iI i) - ((iI (x3 (mny nw nb W B) i (b : Int))) * (iI (s3 (mny nw nb W B) (b : Int)))))), some (.int (iI 0))]) (st' := []) (g1 := (HW sc ar tx oc rl ou tl, q)) rfl ?_
    refine RQ.to (L' := [some (.ref 80), some (.int (iI i)), some (.int (iI (b : Int))), some (.int (iI (i - ((x3 (mny nw nb W B) i (b : Int)) * (s3 (mny nw nb W B) (b : Int)))))), some (.int (iI 0))]) (st' := []) (by simp only [iI_add, iI_sub, iI_mul, iI_neg]) rfl ?_
    refine m_ir_k hF hM hP hD hL hi (b := b) (by omega) hq (fun hr2 => ?_) (mny nw nb W B (b : Int)).toNat 0 (by omega) rfl
    refine RQ.seg 2 (pc' := 2) (L' := [some (.ref 80), some (.int (iI i)), some (.int ((iI (b : Int)) + (iI 1))), some (.int (iI (i - x3 (mny nw nb W B) i (b : Int) * s3 (mny nw nb W B) (b : Int)))), some (.int (iI (mny nw nb W B (b : Int))))]) (st' := []) (g1 := (HW sc ar tx oc rl ou tl, q)) rfl ?_
    refine RQ.to (L' := [some (.ref 80), some (.int (iI i)), some (.int (iI ((b : Int) + 1))), some (.int (iI (i - x3 (mny nw nb W B) i (b : Int) * s3 (mny nw nb W B) (b : Int)))), some (.int (iI (mny nw nb W B (b : Int))))]) (st' := []) (by simp only [iI_add, iI_sub, iI_mul, iI_neg]) rfl ?_
    exact m_ir_b hF hM hP hD hL hi hq m (b + 1) _ _ (by omega) (by rw [rsn, hr, hr2]; rfl)
theorem m_isRest {K : PK} {d : Nat} {sc : Nat → Int} {ar : Nat → Int → Int} {tx oc : Nat} {rl : Nat → Option Nat} {ou : Nat → Int64} {tl : List PO} {q : Nat × Nat} {i : Int} {nw nb : Int} {W B : Int → Int → Int} (hF : FrOK nw nb W B) (hM : FrM (sc 8024) (sc 8025) (ar 85) (ar 86) nw nb W B) (hP : PMx nw nb W B (ar 94) (ar 95)) {law : Int → Int} (hD : LyR nw nb W B law sc ar) (hL : LwOK law) (hi : 0 ≤ i ∧ i < t3 (mny nw nb W B)) : CallR K (d + 4) 208 [.ref 80, .int (iI i)] (HW sc ar tx oc rl ou tl, q) (some (.int (iI (rsf nw nb W B law i)))) (HW sc ar tx oc rl ou tl, q) := by
  apply CQ.x
  have hn := hF.1
  have hm1 := hM.1
  have hm2 := hM.2.1
  refine CQ.of (own := 11) (n := 5) (ini := false) (rt := (some .boolean)) (cd := cd208) (by decide +kernel) rfl (by decide +kernel) rfl (Nat.le_of_ble_eq_true rfl) ?_
  refine RQ.seg 2 (pc' := 2) (L' := [some (.ref 80), some (.int (iI i)), some (.int (iI 0)), none, none]) (st' := []) (g1 := (HW sc ar tx oc rl ou tl, q)) rfl ?_
  exact m_ir_b hF hM hP hD hL hi ⟨rfl, rfl⟩ nb.toNat 0 _ _ (by omega) rfl
theorem m_mr_l {K : PK} {d : Nat} {sc : Nat → Int} {ar : Nat → Int → Int} {tx oc : Nat} {rl : Nat → Option Nat} {ou : Nat → Int64} {tl : List PO} {q : Nat × Nat} {Q : Option Value → PG → Prop} {nw nb : Int} {W B : Int → Int → Int} (hF : FrOK nw nb W B) (hM : FrM (sc 8024) (sc 8025) (ar 85) (ar 86) nw nb W B) {law : Int → Int} (hD : LyR nw nb W B law sc ar) (hk : Q (some (.int (iI (amx (rsv nw nb W B) (t3 (mny nw nb W B)).toNat)))) (HW sc ar tx oc rl ou tl, q)) : ∀ (m k : Nat) (hm : (k : Int) + m = t3 (mny nw nb W B)) (h1 : 1 ≤ k), RQ K (d + 0) 11 false (some .int) cd210 4 [some (.ref 80), some (.int (iI (amx (rsv nw nb W B) k))), some (.int (iI (k : Int)))] [] (HW sc ar tx oc rl ou tl, q) Q
  | 0, k, hm, h1 => by
    have hn := hF.1
    have hm1 := hM.1
    have hm2 := hM.2.1
    have hB := mny_b (nw := nw) (nb := nb) (W := W) (B := B) hF.1.2.1
    have ht3 := t3_r hB
    have hrm : sc 8052 = t3 (mny nw nb W B) := hD.1
    have ham := amx_r (rsv nw nb W B) k
    have hv0 := rsv_r hF (k : Int)
    have hv1 := rsv_r hF (amx (rsv nw nb W B) k)
    refine RQ.seg 3 (pc' := 9) (L' := [some (.ref 80), some (.int (iI (amx (rsv nw nb W B) k))), some (.int (iI (k : Int)))]) (st' := [.int (iI (sc 8052)), .int (iI (k : Int))]) (g1 := (HW sc ar tx oc rl ou tl, q)) rfl ?_
    refine RQ.to (L' := [some (.ref 80), some (.int (iI (amx (rsv nw nb W B) k))), some (.int (iI (k : Int)))]) (st' := [.int (iI (t3 (mny nw nb W B))), .int (iI (k : Int))]) rfl (by rw [show sc 8052 = t3 (mny nw nb W B) from hrm]) ?_
    refine RQ.if2 (a := (k : Int)) (b := (t3 (mny nw nb W B))) rfl rfl rfl rfl (by omega) (by omega) (fun _ => ?_) (fun (q : ¬ t3 (mny nw nb W B) ≤ (k : Int)) => absurd (show t3 (mny nw nb W B) ≤ (k : Int) from by omega) q)
    refine RQ.seg 1 (pc' := 36) (L' := [some (.ref 80), some (.int (iI (amx (rsv nw nb W B) k))), some (.int (iI (k : Int)))]) (st' := [.int (iI (amx (rsv nw nb W B) k))]) (g1 := (HW sc ar tx oc rl ou tl, q)) rfl ?_
    refine RQ.ret rfl rfl ?_
    rw [show (t3 (mny nw nb W B)).toNat = k by omega] at hk
    exact hk
  | m + 1, k, hm, h1 => by
    have hn := hF.1
    have hm1 := hM.1
    have hm2 := hM.2.1
    have hB := mny_b (nw := nw) (nb := nb) (W := W) (B := B) hF.1.2.1
    have ht3 := t3_r hB
    have hrm : sc 8052 = t3 (mny nw nb W B) := hD.1
    have ham := amx_r (rsv nw nb W B) k
    have hv0 := rsv_r hF (k : Int)
    have hv1 := rsv_r hF (amx (rsv nw nb W B) k)
    refine RQ.seg 3 (pc' := 9) (L' := [some (.ref 80), some (.int (iI (amx (rsv nw nb W B) k))), some (.int (iI (k : Int)))]) (st' := [.int (iI (sc 8052)), .int (iI (k : Int))]) (g1 := (HW sc ar tx oc rl ou tl, q)) rfl ?_
    refine RQ.to (L' := [some (.ref 80), some (.int (iI (amx (rsv nw nb W B) k))), some (.int (iI (k : Int)))]) (st' := [.int (iI (t3 (mny nw nb W B))), .int (iI (k : Int))]) rfl (by rw [show sc 8052 = t3 (mny nw nb W B) from hrm]) ?_
    refine RQ.if2 (a := (k : Int)) (b := (t3 (mny nw nb W B))) rfl rfl rfl rfl (by omega) (by omega) (fun (q : t3 (mny nw nb W B) ≤ (k : Int)) => absurd q (show ¬ t3 (mny nw nb W B) ≤ (k : Int) from by omega)) (fun _ => ?_)
    refine RQ.seg 3 (pc' := 17) (L' := [some (.ref 80), some (.int (iI (amx (rsv nw nb W B) k))), some (.int (iI (k : Int)))]) (st' := [.int (iI (k : Int)), .ref 108]) (g1 := (HW sc ar tx oc rl ou tl, q)) rfl ?_
    refine RQ.ialdv (z := (k : Int)) (v := (rsv nw nb W B (k : Int))) rfl rfl rfl (by omega) (by decide) (hD.2 (k : Int) (by omega) (by omega)).1 ?_
    refine RQ.seg 3 (pc' := 23) (L' := [some (.ref 80), some (.int (iI (amx (rsv nw nb W B) k))), some (.int (iI (k : Int)))]) (st' := [.int (iI (amx (rsv nw nb W B) k)), .ref 108, .int (iI (rsv nw nb W B (k : Int)))]) (g1 := (HW sc ar tx oc rl ou tl, q)) rfl ?_
    refine RQ.ialdv (z := (amx (rsv nw nb W B) k)) (v := (rsv nw nb W B (amx (rsv nw nb W B) k))) rfl rfl rfl (by omega) (by decide) (hD.2 (amx (rsv nw nb W B) k) (by omega) (by omega)).1 ?_
    refine RQ.if2 (a := (rsv nw nb W B (k : Int))) (b := (rsv nw nb W B (amx (rsv nw nb W B) k))) rfl rfl rfl rfl (by omega) (by omega) (fun (h2 : rsv nw nb W B (k : Int) ≤ rsv nw nb W B (amx (rsv nw nb W B) k)) => ?_) (fun (h2 : ¬ rsv nw nb W B (k : Int) ≤ rsv nw nb W B (amx (rsv nw nb W B) k)) => ?_)
    · skip
      refine RQ.seg 2 (pc' := 4) (L' := [some (.ref 80), some (.int (iI (amx (rsv nw nb W B) k))), some (.int ((iI (k : Int)) + (iI 1)))]) (st' := []) (g1 := (HW sc ar tx oc rl ou tl, q)) rfl ?_
      refine RQ.to (L' := [some (.ref 80), some (.int (iI (amx (rsv nw nb W B) k))), some (.int (iI ((k : Int) + 1)))]) (st' := []) (by simp only [iI_add, iI_sub, iI_mul, iI_neg]) rfl ?_
      have e9 : amx (rsv nw nb W B) k = amx (rsv nw nb W B) (k + 1) := by rw [amx]; first | rw [if_pos (by omega)] | rw [if_neg (by omega)]
      have e10 := m_mr_l (K := K) (d := d) hF hM hD hk m (k + 1) (by omega) (by omega)
      rw [← e9] at e10
      exact e10
    · skip
      refine RQ.seg 4 (pc' := 4) (L' := [some (.ref 80), some (.int (iI (k : Int))), some (.int ((iI (k : Int)) + (iI 1)))]) (st' := []) (g1 := (HW sc ar tx oc rl ou tl, q)) rfl ?_
      refine RQ.to (L' := [some (.ref 80), some (.int (iI (k : Int))), some (.int (iI ((k : Int) + 1)))]) (st' := []) (by simp only [iI_add, iI_sub, iI_mul, iI_neg]) rfl ?_
      have e9 : (k : Int) = amx (rsv nw nb W B) (k + 1) := by rw [amx]; first | rw [if_pos (by omega)] | rw [if_neg (by omega)]
      have e10 := m_mr_l (K := K) (d := d) hF hM hD hk m (k + 1) (by omega) (by omega)
      rw [← e9] at e10
      exact e10
theorem m_mostRow {K : PK} {d : Nat} {sc : Nat → Int} {ar : Nat → Int → Int} {tx oc : Nat} {rl : Nat → Option Nat} {ou : Nat → Int64} {tl : List PO} {q : Nat × Nat} {nw nb : Int} {W B : Int → Int → Int} (hF : FrOK nw nb W B) (hM : FrM (sc 8024) (sc 8025) (ar 85) (ar 86) nw nb W B) {law : Int → Int} (hD : LyR nw nb W B law sc ar) : CallR K (d + 1) 210 [.ref 80] (HW sc ar tx oc rl ou tl, q) (some (.int (iI (amx (rsv nw nb W B) (t3 (mny nw nb W B)).toNat)))) (HW sc ar tx oc rl ou tl, q) := by
  apply CQ.x
  have hn := hF.1
  have hm1 := hM.1
  have hm2 := hM.2.1
  have hB := mny_b (nw := nw) (nb := nb) (W := W) (B := B) hF.1.2.1
  have ht3 := t3_r hB
  have hrm : sc 8052 = t3 (mny nw nb W B) := hD.1
  refine CQ.of (own := 11) (n := 3) (ini := false) (rt := (some .int)) (cd := cd210) (by decide +kernel) rfl (by decide +kernel) rfl (Nat.le_of_ble_eq_true rfl) ?_
  refine RQ.seg 4 (pc' := 4) (L' := [some (.ref 80), some (.int (iI 0)), some (.int (iI 1))]) (st' := []) (g1 := (HW sc ar tx oc rl ou tl, q)) rfl ?_
  have e0 : amx (rsv nw nb W B) 1 = 0 := by rw [amx, amx]; split <;> rfl
  have e1 := m_mr_l (K := K) (d := d) (tx := tx) (oc := oc) (rl := rl) (ou := ou) (tl := tl) (q := q) (Q := fun r g' => r = some (.int (iI (amx (rsv nw nb W B) (t3 (mny nw nb W B)).toNat))) ∧ g' = (HW sc ar tx oc rl ou tl, q)) hF hM hD ⟨rfl, rfl⟩ ((t3 (mny nw nb W B)).toNat - 1) 1 (by omega) (by omega)
  rw [e0] at e1
  exact e1
theorem m_srM_l {K : PK} {d : Nat} {sc : Nat → Int} {ar : Nat → Int → Int} {tx oc : Nat} {rl : Nat → Option Nat} {ou : Nat → Int64} {tl : List PO} {q : Nat × Nat} {Q : Option Value → PG → Prop} {nw nb : Int} {W B : Int → Int → Int} (hF : FrOK nw nb W B) (hM : FrM (sc 8024) (sc 8025) (ar 85) (ar 86) nw nb W B) (hP : PMx nw nb W B (ar 94) (ar 95)) {law : Int → Int} (hD : LyR nw nb W B law sc ar) (hL : LwOK law) (hk : Q (some (.int (iI (msr (rsf nw nb W B law) (rsv nw nb W B) (t3 (mny nw nb W B)).toNat)))) (HW sc ar tx oc rl ou tl, q)) : ∀ (m k : Nat) (hm : (k : Int) + m = t3 (mny nw nb W B)), RQ K (d + 4) 11 false (some .int) cd212 4 [some (.ref 80), some (.int (iI 1)), some (.int (iI (msr (rsf nw nb W B law) (rsv nw nb W B) k))), some (.int (iI (k : Int)))] [] (HW sc ar tx oc rl ou tl, q) Q
  | 0, k, hm => by
    have hn := hF.1
    have hm1 := hM.1
    have hm2 := hM.2.1
    have hB := mny_b (nw := nw) (nb := nb) (W := W) (B := B) hF.1.2.1
    have ht3 := t3_r hB
    have hrm : sc 8052 = t3 (mny nw nb W B) := hD.1
    have hv0 := rsv_r hF (k : Int)
    have hv1 := msr_r (r := rsf nw nb W B law) (rsv_r hF) k
    have hrs := rsf_r (nw := nw) (nb := nb) (W := W) (B := B) law (k : Int)
    refine RQ.seg 3 (pc' := 9) (L' := [some (.ref 80), some (.int (iI 1)), some (.int (iI (msr (rsf nw nb W B law) (rsv nw nb W B) k))), some (.int (iI (k : Int)))]) (st' := [.int (iI (sc 8052)), .int (iI (k : Int))]) (g1 := (HW sc ar tx oc rl ou tl, q)) rfl ?_
    refine RQ.to (L' := [some (.ref 80), some (.int (iI 1)), some (.int (iI (msr (rsf nw nb W B law) (rsv nw nb W B) k))), some (.int (iI (k : Int)))]) (st' := [.int (iI (t3 (mny nw nb W B))), .int (iI (k : Int))]) rfl (by rw [show sc 8052 = t3 (mny nw nb W B) from hrm]) ?_
    refine RQ.if2 (a := (k : Int)) (b := (t3 (mny nw nb W B))) rfl rfl rfl rfl (by omega) (by omega) (fun _ => ?_) (fun (q : ¬ t3 (mny nw nb W B) ≤ (k : Int)) => absurd (show t3 (mny nw nb W B) ≤ (k : Int) from by omega) q)
    refine RQ.seg 1 (pc' := 69) (L' := [some (.ref 80), some (.int (iI 1)), some (.int (iI (msr (rsf nw nb W B law) (rsv nw nb W B) k))), some (.int (iI (k : Int)))]) (st' := [.int (iI (msr (rsf nw nb W B law) (rsv nw nb W B) k))]) (g1 := (HW sc ar tx oc rl ou tl, q)) rfl ?_
    refine RQ.ret rfl rfl ?_
    rw [show (t3 (mny nw nb W B)).toNat = k by omega] at hk
    exact hk
  | m + 1, k, hm => by
    have hn := hF.1
    have hm1 := hM.1
    have hm2 := hM.2.1
    have hB := mny_b (nw := nw) (nb := nb) (W := W) (B := B) hF.1.2.1
    have ht3 := t3_r hB
    have hrm : sc 8052 = t3 (mny nw nb W B) := hD.1
    have hv0 := rsv_r hF (k : Int)
    have hv1 := msr_r (r := rsf nw nb W B law) (rsv_r hF) k
    have hrs := rsf_r (nw := nw) (nb := nb) (W := W) (B := B) law (k : Int)
    refine RQ.seg 3 (pc' := 9) (L' := [some (.ref 80), some (.int (iI 1)), some (.int (iI (msr (rsf nw nb W B law) (rsv nw nb W B) k))), some (.int (iI (k : Int)))]) (st' := [.int (iI (sc 8052)), .int (iI (k : Int))]) (g1 := (HW sc ar tx oc rl ou tl, q)) rfl ?_
    refine RQ.to (L' := [some (.ref 80), some (.int (iI 1)), some (.int (iI (msr (rsf nw nb W B law) (rsv nw nb W B) k))), some (.int (iI (k : Int)))]) (st' := [.int (iI (t3 (mny nw nb W B))), .int (iI (k : Int))]) rfl (by rw [show sc 8052 = t3 (mny nw nb W B) from hrm]) ?_
    refine RQ.if2 (a := (k : Int)) (b := (t3 (mny nw nb W B))) rfl rfl rfl rfl (by omega) (by omega) (fun (q : t3 (mny nw nb W B) ≤ (k : Int)) => absurd q (show ¬ t3 (mny nw nb W B) ≤ (k : Int) from by omega)) (fun _ => ?_)
    refine RQ.seg 2 (pc' := 14) (L' := [some (.ref 80), some (.int (iI 1)), some (.int (iI (msr (rsf nw nb W B law) (rsv nw nb W B) k))), some (.int (iI (k : Int)))]) (st' := [.int (iI (k : Int)), .ref 80]) (g1 := (HW sc ar tx oc rl ou tl, q)) rfl ?_
    refine RQ.call rfl rfl (m_isRest (i := (k : Int)) hF hM hP hD hL (by omega)) ?_
    refine RQ.if1 (a := (rsf nw nb W B law (k : Int))) rfl rfl rfl (by omega) (fun (h2 : rsf nw nb W B law (k : Int) ≠ 0) => ?_) (fun (h2 : ¬ rsf nw nb W B law (k : Int) ≠ 0) => ?_)
    · skip
      refine RQ.seg 2 (pc' := 25) (L' := [some (.ref 80), some (.int (iI 1)), some (.int (iI (msr (rsf nw nb W B law) (rsv nw nb W B) k))), some (.int (iI (k : Int)))]) (st' := [.int (iI (-1)), .int (iI (msr (rsf nw nb W B law) (rsv nw nb W B) k))]) (g1 := (HW sc ar tx oc rl ou tl, q)) rfl ?_
      refine RQ.if2 (a := (msr (rsf nw nb W B law) (rsv nw nb W B) k)) (b := (-1)) rfl rfl rfl rfl (by omega) (by omega) (fun (h3 : msr (rsf nw nb W B law) (rsv nw nb W B) k = (-1)) => ?_) (fun (h3 : ¬ msr (rsf nw nb W B law) (rsv nw nb W B) k = (-1)) => ?_)
      · skip
        refine RQ.seg 3 (pc' := 60) (L' := [some (.ref 80), some (.int (iI 1)), some (.int (iI (msr (rsf nw nb W B law) (rsv nw nb W B) k))), some (.int (iI (k : Int)))]) (st' := [.int (iI (k : Int)), .ref 108]) (g1 := (HW sc ar tx oc rl ou tl, q)) rfl ?_
        refine RQ.ialdv (z := (k : Int)) (v := (rsv nw nb W B (k : Int))) rfl rfl rfl (by omega) (by decide) (hD.2 (k : Int) (by omega) (by omega)).1 ?_
        refine RQ.seg 3 (pc' := 4) (L' := [some (.ref 80), some (.int (iI 1)), some (.int (iI (rsv nw nb W B (k : Int)))), some (.int ((iI (k : Int)) + (iI 1)))]) (st' := []) (g1 := (HW sc ar tx oc rl ou tl, q)) rfl ?_
        refine RQ.to (L' := [some (.ref 80), some (.int (iI 1)), some (.int (iI (rsv nw nb W B (k : Int)))), some (.int (iI ((k : Int) + 1)))]) (st' := []) (by simp only [iI_add, iI_sub, iI_mul, iI_neg]) rfl ?_
        have e9 : rsv nw nb W B (k : Int) = msr (rsf nw nb W B law) (rsv nw nb W B) (k + 1) := by rw [msr]; first | rw [if_pos (by omega)] | rw [if_neg (by omega)]
        rw [e9]
        exact m_srM_l hF hM hP hD hL hk m (k + 1) (by omega)
      · skip
        refine RQ.seg 5 (pc' := 37) (L' := [some (.ref 80), some (.int (iI 1)), some (.int (iI (msr (rsf nw nb W B law) (rsv nw nb W B) k))), some (.int (iI (k : Int)))]) (st' := [.int (iI (k : Int)), .ref 108]) (g1 := (HW sc ar tx oc rl ou tl, q)) rfl ?_
        refine RQ.ialdv (z := (k : Int)) (v := (rsv nw nb W B (k : Int))) rfl rfl rfl (by omega) (by decide) (hD.2 (k : Int) (by omega) (by omega)).1 ?_
        refine RQ.seg 1 (pc' := 39) (L' := [some (.ref 80), some (.int (iI 1)), some (.int (iI (msr (rsf nw nb W B law) (rsv nw nb W B) k))), some (.int (iI (k : Int)))]) (st' := [.int (iI (msr (rsf nw nb W B law) (rsv nw nb W B) k)), .int (iI (rsv nw nb W B (k : Int)))]) (g1 := (HW sc ar tx oc rl ou tl, q)) rfl ?_
        refine RQ.if2 (a := (rsv nw nb W B (k : Int))) (b := (msr (rsf nw nb W B law) (rsv nw nb W B) k)) rfl rfl rfl rfl (by omega) (by omega) (fun (h4 : rsv nw nb W B (k : Int) ≤ msr (rsf nw nb W B law) (rsv nw nb W B) k) => ?_) (fun (h4 : ¬ rsv nw nb W B (k : Int) ≤ msr (rsf nw nb W B law) (rsv nw nb W B) k) => ?_)
        · skip
          refine RQ.seg 2 (pc' := 4) (L' := [some (.ref 80), some (.int (iI 1)), some (.int (iI (msr (rsf nw nb W B law) (rsv nw nb W B) k))), some (.int ((iI (k : Int)) + (iI 1)))]) (st' := []) (g1 := (HW sc ar tx oc rl ou tl, q)) rfl ?_
          refine RQ.to (L' := [some (.ref 80), some (.int (iI 1)), some (.int (iI (msr (rsf nw nb W B law) (rsv nw nb W B) k))), some (.int (iI ((k : Int) + 1)))]) (st' := []) (by simp only [iI_add, iI_sub, iI_mul, iI_neg]) rfl ?_
          have e9 : msr (rsf nw nb W B law) (rsv nw nb W B) k = msr (rsf nw nb W B law) (rsv nw nb W B) (k + 1) := by rw [msr]; first | rw [if_pos (by omega)] | rw [if_neg (by omega)]
          rw [e9]
          exact m_srM_l hF hM hP hD hL hk m (k + 1) (by omega)
        · skip
          refine RQ.seg 4 (pc' := 60) (L' := [some (.ref 80), some (.int (iI 1)), some (.int (iI (msr (rsf nw nb W B law) (rsv nw nb W B) k))), some (.int (iI (k : Int)))]) (st' := [.int (iI (k : Int)), .ref 108]) (g1 := (HW sc ar tx oc rl ou tl, q)) rfl ?_
          refine RQ.ialdv (z := (k : Int)) (v := (rsv nw nb W B (k : Int))) rfl rfl rfl (by omega) (by decide) (hD.2 (k : Int) (by omega) (by omega)).1 ?_
          refine RQ.seg 3 (pc' := 4) (L' := [some (.ref 80), some (.int (iI 1)), some (.int (iI (rsv nw nb W B (k : Int)))), some (.int ((iI (k : Int)) + (iI 1)))]) (st' := []) (g1 := (HW sc ar tx oc rl ou tl, q)) rfl ?_
          refine RQ.to (L' := [some (.ref 80), some (.int (iI 1)), some (.int (iI (rsv nw nb W B (k : Int)))), some (.int (iI ((k : Int) + 1)))]) (st' := []) (by simp only [iI_add, iI_sub, iI_mul, iI_neg]) rfl ?_
          have e9 : rsv nw nb W B (k : Int) = msr (rsf nw nb W B law) (rsv nw nb W B) (k + 1) := by rw [msr]; first | rw [if_pos (by omega)] | rw [if_neg (by omega)]
          rw [e9]
          exact m_srM_l hF hM hP hD hL hk m (k + 1) (by omega)
    · skip
      refine RQ.seg 3 (pc' := 4) (L' := [some (.ref 80), some (.int (iI 1)), some (.int (iI (msr (rsf nw nb W B law) (rsv nw nb W B) k))), some (.int ((iI (k : Int)) + (iI 1)))]) (st' := []) (g1 := (HW sc ar tx oc rl ou tl, q)) rfl ?_
      refine RQ.to (L' := [some (.ref 80), some (.int (iI 1)), some (.int (iI (msr (rsf nw nb W B law) (rsv nw nb W B) k))), some (.int (iI ((k : Int) + 1)))]) (st' := []) (by simp only [iI_add, iI_sub, iI_mul, iI_neg]) rfl ?_
      have e9 : msr (rsf nw nb W B law) (rsv nw nb W B) k = msr (rsf nw nb W B law) (rsv nw nb W B) (k + 1) := by rw [msr]; first | rw [if_pos (by omega)] | rw [if_neg (by omega)]
      rw [e9]
      exact m_srM_l hF hM hP hD hL hk m (k + 1) (by omega)
theorem m_savedInM {K : PK} {d : Nat} {sc : Nat → Int} {ar : Nat → Int → Int} {tx oc : Nat} {rl : Nat → Option Nat} {ou : Nat → Int64} {tl : List PO} {q : Nat × Nat} {nw nb : Int} {W B : Int → Int → Int} (hF : FrOK nw nb W B) (hM : FrM (sc 8024) (sc 8025) (ar 85) (ar 86) nw nb W B) (hP : PMx nw nb W B (ar 94) (ar 95)) {law : Int → Int} (hD : LyR nw nb W B law sc ar) (hL : LwOK law) : CallR K (d + 5) 212 [.ref 80, .int (iI 1)] (HW sc ar tx oc rl ou tl, q) (some (.int (iI (msr (rsf nw nb W B law) (rsv nw nb W B) (t3 (mny nw nb W B)).toNat)))) (HW sc ar tx oc rl ou tl, q) := by
  apply CQ.x
  have hn := hF.1
  have hm1 := hM.1
  have hm2 := hM.2.1
  have hB := mny_b (nw := nw) (nb := nb) (W := W) (B := B) hF.1.2.1
  have ht3 := t3_r hB
  have hrm : sc 8052 = t3 (mny nw nb W B) := hD.1
  refine CQ.of (own := 11) (n := 4) (ini := false) (rt := (some .int)) (cd := cd212) (by decide +kernel) rfl (by decide +kernel) rfl (Nat.le_of_ble_eq_true rfl) ?_
  refine RQ.seg 4 (pc' := 4) (L' := [some (.ref 80), some (.int (iI 1)), some (.int (iI (-1))), some (.int (iI 0))]) (st' := []) (g1 := (HW sc ar tx oc rl ou tl, q)) rfl ?_
  exact m_srM_l hF hM hP hD hL ⟨rfl, rfl⟩ (t3 (mny nw nb W B)).toNat 0 (by omega)
theorem m_srL_l {K : PK} {d : Nat} {sc : Nat → Int} {ar : Nat → Int → Int} {tx oc : Nat} {rl : Nat → Option Nat} {ou : Nat → Int64} {tl : List PO} {q : Nat × Nat} {Q : Option Value → PG → Prop} {nw nb : Int} {W B : Int → Int → Int} (hF : FrOK nw nb W B) (hM : FrM (sc 8024) (sc 8025) (ar 85) (ar 86) nw nb W B) (hP : PMx nw nb W B (ar 94) (ar 95)) {law : Int → Int} (hD : LyR nw nb W B law sc ar) (hL : LwOK law) (hk : Q (some (.int (iI (lsr (rsf nw nb W B law) (rsv nw nb W B) (t3 (mny nw nb W B)).toNat)))) (HW sc ar tx oc rl ou tl, q)) : ∀ (m k : Nat) (hm : (k : Int) + m = t3 (mny nw nb W B)), RQ K (d + 4) 11 false (some .int) cd212 4 [some (.ref 80), some (.int (iI 0)), some (.int (iI (lsr (rsf nw nb W B law) (rsv nw nb W B) k))), some (.int (iI (k : Int)))] [] (HW sc ar tx oc rl ou tl, q) Q
  | 0, k, hm => by
    have hn := hF.1
    have hm1 := hM.1
    have hm2 := hM.2.1
    have hB := mny_b (nw := nw) (nb := nb) (W := W) (B := B) hF.1.2.1
    have ht3 := t3_r hB
    have hrm : sc 8052 = t3 (mny nw nb W B) := hD.1
    have hv0 := rsv_r hF (k : Int)
    have hv1 := lsr_r (r := rsf nw nb W B law) (rsv_r hF) k
    have hrs := rsf_r (nw := nw) (nb := nb) (W := W) (B := B) law (k : Int)
    refine RQ.seg 3 (pc' := 9) (L' := [some (.ref 80), some (.int (iI 0)), some (.int (iI (lsr (rsf nw nb W B law) (rsv nw nb W B) k))), some (.int (iI (k : Int)))]) (st' := [.int (iI (sc 8052)), .int (iI (k : Int))]) (g1 := (HW sc ar tx oc rl ou tl, q)) rfl ?_
    refine RQ.to (L' := [some (.ref 80), some (.int (iI 0)), some (.int (iI (lsr (rsf nw nb W B law) (rsv nw nb W B) k))), some (.int (iI (k : Int)))]) (st' := [.int (iI (t3 (mny nw nb W B))), .int (iI (k : Int))]) rfl (by rw [show sc 8052 = t3 (mny nw nb W B) from hrm]) ?_
    refine RQ.if2 (a := (k : Int)) (b := (t3 (mny nw nb W B))) rfl rfl rfl rfl (by omega) (by omega) (fun _ => ?_) (fun (q : ¬ t3 (mny nw nb W B) ≤ (k : Int)) => absurd (show t3 (mny nw nb W B) ≤ (k : Int) from by omega) q)
    refine RQ.seg 1 (pc' := 69) (L' := [some (.ref 80), some (.int (iI 0)), some (.int (iI (lsr (rsf nw nb W B law) (rsv nw nb W B) k))), some (.int (iI (k : Int)))]) (st' := [.int (iI (lsr (rsf nw nb W B law) (rsv nw nb W B) k))]) (g1 := (HW sc ar tx oc rl ou tl, q)) rfl ?_
    refine RQ.ret rfl rfl ?_
    rw [show (t3 (mny nw nb W B)).toNat = k by omega] at hk
    exact hk
  | m + 1, k, hm => by
    have hn := hF.1
    have hm1 := hM.1
    have hm2 := hM.2.1
    have hB := mny_b (nw := nw) (nb := nb) (W := W) (B := B) hF.1.2.1
    have ht3 := t3_r hB
    have hrm : sc 8052 = t3 (mny nw nb W B) := hD.1
    have hv0 := rsv_r hF (k : Int)
    have hv1 := lsr_r (r := rsf nw nb W B law) (rsv_r hF) k
    have hrs := rsf_r (nw := nw) (nb := nb) (W := W) (B := B) law (k : Int)
    refine RQ.seg 3 (pc' := 9) (L' := [some (.ref 80), some (.int (iI 0)), some (.int (iI (lsr (rsf nw nb W B law) (rsv nw nb W B) k))), some (.int (iI (k : Int)))]) (st' := [.int (iI (sc 8052)), .int (iI (k : Int))]) (g1 := (HW sc ar tx oc rl ou tl, q)) rfl ?_
    refine RQ.to (L' := [some (.ref 80), some (.int (iI 0)), some (.int (iI (lsr (rsf nw nb W B law) (rsv nw nb W B) k))), some (.int (iI (k : Int)))]) (st' := [.int (iI (t3 (mny nw nb W B))), .int (iI (k : Int))]) rfl (by rw [show sc 8052 = t3 (mny nw nb W B) from hrm]) ?_
    refine RQ.if2 (a := (k : Int)) (b := (t3 (mny nw nb W B))) rfl rfl rfl rfl (by omega) (by omega) (fun (q : t3 (mny nw nb W B) ≤ (k : Int)) => absurd q (show ¬ t3 (mny nw nb W B) ≤ (k : Int) from by omega)) (fun _ => ?_)
    refine RQ.seg 2 (pc' := 14) (L' := [some (.ref 80), some (.int (iI 0)), some (.int (iI (lsr (rsf nw nb W B law) (rsv nw nb W B) k))), some (.int (iI (k : Int)))]) (st' := [.int (iI (k : Int)), .ref 80]) (g1 := (HW sc ar tx oc rl ou tl, q)) rfl ?_
    refine RQ.call rfl rfl (m_isRest (i := (k : Int)) hF hM hP hD hL (by omega)) ?_
    refine RQ.if1 (a := (rsf nw nb W B law (k : Int))) rfl rfl rfl (by omega) (fun (h2 : rsf nw nb W B law (k : Int) ≠ 0) => ?_) (fun (h2 : ¬ rsf nw nb W B law (k : Int) ≠ 0) => ?_)
    · skip
      refine RQ.seg 2 (pc' := 25) (L' := [some (.ref 80), some (.int (iI 0)), some (.int (iI (lsr (rsf nw nb W B law) (rsv nw nb W B) k))), some (.int (iI (k : Int)))]) (st' := [.int (iI (-1)), .int (iI (lsr (rsf nw nb W B law) (rsv nw nb W B) k))]) (g1 := (HW sc ar tx oc rl ou tl, q)) rfl ?_
      refine RQ.if2 (a := (lsr (rsf nw nb W B law) (rsv nw nb W B) k)) (b := (-1)) rfl rfl rfl rfl (by omega) (by omega) (fun (h3 : lsr (rsf nw nb W B law) (rsv nw nb W B) k = (-1)) => ?_) (fun (h3 : ¬ lsr (rsf nw nb W B law) (rsv nw nb W B) k = (-1)) => ?_)
      · skip
        refine RQ.seg 3 (pc' := 60) (L' := [some (.ref 80), some (.int (iI 0)), some (.int (iI (lsr (rsf nw nb W B law) (rsv nw nb W B) k))), some (.int (iI (k : Int)))]) (st' := [.int (iI (k : Int)), .ref 108]) (g1 := (HW sc ar tx oc rl ou tl, q)) rfl ?_
        refine RQ.ialdv (z := (k : Int)) (v := (rsv nw nb W B (k : Int))) rfl rfl rfl (by omega) (by decide) (hD.2 (k : Int) (by omega) (by omega)).1 ?_
        refine RQ.seg 3 (pc' := 4) (L' := [some (.ref 80), some (.int (iI 0)), some (.int (iI (rsv nw nb W B (k : Int)))), some (.int ((iI (k : Int)) + (iI 1)))]) (st' := []) (g1 := (HW sc ar tx oc rl ou tl, q)) rfl ?_
        refine RQ.to (L' := [some (.ref 80), some (.int (iI 0)), some (.int (iI (rsv nw nb W B (k : Int)))), some (.int (iI ((k : Int) + 1)))]) (st' := []) (by simp only [iI_add, iI_sub, iI_mul, iI_neg]) rfl ?_
        have e9 : rsv nw nb W B (k : Int) = lsr (rsf nw nb W B law) (rsv nw nb W B) (k + 1) := by rw [lsr]; first | rw [if_pos (by omega)] | rw [if_neg (by omega)]
        rw [e9]
        exact m_srL_l hF hM hP hD hL hk m (k + 1) (by omega)
      · skip
        refine RQ.seg 5 (pc' := 50) (L' := [some (.ref 80), some (.int (iI 0)), some (.int (iI (lsr (rsf nw nb W B law) (rsv nw nb W B) k))), some (.int (iI (k : Int)))]) (st' := [.int (iI (k : Int)), .ref 108]) (g1 := (HW sc ar tx oc rl ou tl, q)) rfl ?_
        refine RQ.ialdv (z := (k : Int)) (v := (rsv nw nb W B (k : Int))) rfl rfl rfl (by omega) (by decide) (hD.2 (k : Int) (by omega) (by omega)).1 ?_
        refine RQ.seg 1 (pc' := 52) (L' := [some (.ref 80), some (.int (iI 0)), some (.int (iI (lsr (rsf nw nb W B law) (rsv nw nb W B) k))), some (.int (iI (k : Int)))]) (st' := [.int (iI (lsr (rsf nw nb W B law) (rsv nw nb W B) k)), .int (iI (rsv nw nb W B (k : Int)))]) (g1 := (HW sc ar tx oc rl ou tl, q)) rfl ?_
        refine RQ.if2 (a := (rsv nw nb W B (k : Int))) (b := (lsr (rsf nw nb W B law) (rsv nw nb W B) k)) rfl rfl rfl rfl (by omega) (by omega) (fun (h4 : lsr (rsf nw nb W B law) (rsv nw nb W B) k ≤ rsv nw nb W B (k : Int)) => ?_) (fun (h4 : ¬ lsr (rsf nw nb W B law) (rsv nw nb W B) k ≤ rsv nw nb W B (k : Int)) => ?_)
        · skip
          refine RQ.seg 2 (pc' := 4) (L' := [some (.ref 80), some (.int (iI 0)), some (.int (iI (lsr (rsf nw nb W B law) (rsv nw nb W B) k))), some (.int ((iI (k : Int)) + (iI 1)))]) (st' := []) (g1 := (HW sc ar tx oc rl ou tl, q)) rfl ?_
          refine RQ.to (L' := [some (.ref 80), some (.int (iI 0)), some (.int (iI (lsr (rsf nw nb W B law) (rsv nw nb W B) k))), some (.int (iI ((k : Int) + 1)))]) (st' := []) (by simp only [iI_add, iI_sub, iI_mul, iI_neg]) rfl ?_
          have e9 : lsr (rsf nw nb W B law) (rsv nw nb W B) k = lsr (rsf nw nb W B law) (rsv nw nb W B) (k + 1) := by rw [lsr]; first | rw [if_pos (by omega)] | rw [if_neg (by omega)]
          rw [e9]
          exact m_srL_l hF hM hP hD hL hk m (k + 1) (by omega)
        · skip
          refine RQ.seg 3 (pc' := 60) (L' := [some (.ref 80), some (.int (iI 0)), some (.int (iI (lsr (rsf nw nb W B law) (rsv nw nb W B) k))), some (.int (iI (k : Int)))]) (st' := [.int (iI (k : Int)), .ref 108]) (g1 := (HW sc ar tx oc rl ou tl, q)) rfl ?_
          refine RQ.ialdv (z := (k : Int)) (v := (rsv nw nb W B (k : Int))) rfl rfl rfl (by omega) (by decide) (hD.2 (k : Int) (by omega) (by omega)).1 ?_
          refine RQ.seg 3 (pc' := 4) (L' := [some (.ref 80), some (.int (iI 0)), some (.int (iI (rsv nw nb W B (k : Int)))), some (.int ((iI (k : Int)) + (iI 1)))]) (st' := []) (g1 := (HW sc ar tx oc rl ou tl, q)) rfl ?_
          refine RQ.to (L' := [some (.ref 80), some (.int (iI 0)), some (.int (iI (rsv nw nb W B (k : Int)))), some (.int (iI ((k : Int) + 1)))]) (st' := []) (by simp only [iI_add, iI_sub, iI_mul, iI_neg]) rfl ?_
          have e9 : rsv nw nb W B (k : Int) = lsr (rsf nw nb W B law) (rsv nw nb W B) (k + 1) := by rw [lsr]; first | rw [if_pos (by omega)] | rw [if_neg (by omega)]
          rw [e9]
          exact m_srL_l hF hM hP hD hL hk m (k + 1) (by omega)
    · skip
      refine RQ.seg 3 (pc' := 4) (L' := [some (.ref 80), some (.int (iI 0)), some (.int (iI (lsr (rsf nw nb W B law) (rsv nw nb W B) k))), some (.int ((iI (k : Int)) + (iI 1)))]) (st' := []) (g1 := (HW sc ar tx oc rl ou tl, q)) rfl ?_
      refine RQ.to (L' := [some (.ref 80), some (.int (iI 0)), some (.int (iI (lsr (rsf nw nb W B law) (rsv nw nb W B) k))), some (.int (iI ((k : Int) + 1)))]) (st' := []) (by simp only [iI_add, iI_sub, iI_mul, iI_neg]) rfl ?_
      have e9 : lsr (rsf nw nb W B law) (rsv nw nb W B) k = lsr (rsf nw nb W B law) (rsv nw nb W B) (k + 1) := by rw [lsr]; first | rw [if_pos (by omega)] | rw [if_neg (by omega)]
      rw [e9]
      exact m_srL_l hF hM hP hD hL hk m (k + 1) (by omega)
theorem m_savedInL {K : PK} {d : Nat} {sc : Nat → Int} {ar : Nat → Int → Int} {tx oc : Nat} {rl : Nat → Option Nat} {ou : Nat → Int64} {tl : List PO} {q : Nat × Nat} {nw nb : Int} {W B : Int → Int → Int} (hF : FrOK nw nb W B) (hM : FrM (sc 8024) (sc 8025) (ar 85) (ar 86) nw nb W B) (hP : PMx nw nb W B (ar 94) (ar 95)) {law : Int → Int} (hD : LyR nw nb W B law sc ar) (hL : LwOK law) : CallR K (d + 5) 212 [.ref 80, .int (iI 0)] (HW sc ar tx oc rl ou tl, q) (some (.int (iI (lsr (rsf nw nb W B law) (rsv nw nb W B) (t3 (mny nw nb W B)).toNat)))) (HW sc ar tx oc rl ou tl, q) := by
  apply CQ.x
  have hn := hF.1
  have hm1 := hM.1
  have hm2 := hM.2.1
  have hB := mny_b (nw := nw) (nb := nb) (W := W) (B := B) hF.1.2.1
  have ht3 := t3_r hB
  have hrm : sc 8052 = t3 (mny nw nb W B) := hD.1
  refine CQ.of (own := 11) (n := 4) (ini := false) (rt := (some .int)) (cd := cd212) (by decide +kernel) rfl (by decide +kernel) rfl (Nat.le_of_ble_eq_true rfl) ?_
  refine RQ.seg 4 (pc' := 4) (L' := [some (.ref 80), some (.int (iI 0)), some (.int (iI (-1))), some (.int (iI 0))]) (st' := []) (g1 := (HW sc ar tx oc rl ou tl, q)) rfl ?_
  exact m_srL_l hF hM hP hD hL ⟨rfl, rfl⟩ (t3 (mny nw nb W B)).toNat 0 (by omega)
theorem m_pf_k {K : PK} {d : Nat} {sc : Nat → Int} {ar : Nat → Int → Int} {tx oc : Nat} {rl : Nat → Option Nat} {ou : Nat → Int64} {tl : List PO} {q : Nat × Nat} {Q : Option Value → PG → Prop} {i : Int} {nw nb : Int} {W B : Int → Int → Int} (hF : FrOK nw nb W B) (hM : FrM (sc 8024) (sc 8025) (ar 85) (ar 86) nw nb W B) (hP : PMx nw nb W B (ar 94) (ar 95)) {law : Int → Int} (hD : LyR nw nb W B law sc ar) (hL : LwOK law) (hi : 0 ≤ i ∧ i < t3 (mny nw nb W B)) {l u : Int} {b : Nat} (hb : (b : Int) < nb) (hk : ∀ e8 : Option Value, RQ K (d + 3) 11 false (some .int) cd215 109 [some (.ref 80), some (.int (iI i)), some (.int (iI l)), some (.int (iI u)), some (.int (iI (b : Int))), some (.int (iI (i - x3 (mny nw nb W B) i (b : Int) * s3 (mny nw nb W B) (b : Int)))), some (.int (iI (wrk nw nb W B law i (b : Int)))), some (.int (iI (mny nw nb W B (b : Int)))), e8] [] (HW sc ar tx oc rl ou tl, q) Q) : ∀ (m k : Nat) (e8 : Option Value) (hm : (k : Int) + m = mny nw nb W B (b : Int)), RQ K (d + 3) 11 false (some .int) cd215 43 [some (.ref 80), some (.int (iI i)), some (.int (iI l)), some (.int (iI u)), some (.int (iI (b : Int))), some (.int (iI (i - x3 (mny nw nb W B) i (b : Int) * s3 (mny nw nb W B) (b : Int)))), some (.int (iI (wkn nw nb W B law i (b : Int) k))), some (.int (iI (k : Int))), e8] [] (HW sc ar tx oc rl ou tl, q) Q
  | 0, k, e8, hm => by
    have hn := hF.1
    have hm1 := hM.1
    have hm2 := hM.2.1
    have hB := mny_b (nw := nw) (nb := nb) (W := W) (B := B) hF.1.2.1
    have ht3 := t3_r hB
    have hrm : sc 8052 = t3 (mny nw nb W B) := hD.1
    have hw := wkn_r hF hL (i := i) (b := (b : Int)) (by omega) k
    have hm3 := hB (b : Int) (by omega) (by omega)
    refine RQ.seg 4 (pc' := 51) (L' := [some (.ref 80), some (.int (iI i)), some (.int (iI l)), some (.int (iI u)), some (.int (iI (b : Int))), some (.int (iI (i - x3 (mny nw nb W B) i (b : Int) * s3 (mny nw nb W B) (b : Int)))), some (.int (iI (wkn nw nb W B law i (b : Int) k))), some (.int (iI (k : Int))), e8]) (st' := [.int (iI (b : Int)), .ref 95, .int (iI (k : Int))]) (g1 := (HW sc ar tx oc rl ou tl, q)) rfl ?_
    refine RQ.ialdv (z := (b : Int)) (v := (mny nw nb W B (b : Int))) rfl rfl rfl (by omega) (by decide) ((hP (b : Int) (by omega) (by omega)).1.trans (mny_t (by omega)).symm) ?_
    refine RQ.if2 (a := (k : Int)) (b := (mny nw nb W B (b : Int))) rfl rfl rfl rfl (by omega) (by omega) (fun _ => ?_) (fun (q : ¬ mny nw nb W B (b : Int) ≤ (k : Int)) => absurd (show mny nw nb W B (b : Int) ≤ (k : Int) from by omega) q)
    have e9 : mny nw nb W B (b : Int) = (k : Int) := by omega
    unfold wrk at hk
    rw [e9, Int.toNat_natCast] at hk
    exact hk e8
  | m + 1, k, e8, hm => by
    have hn := hF.1
    have hm1 := hM.1
    have hm2 := hM.2.1
    have hB := mny_b (nw := nw) (nb := nb) (W := W) (B := B) hF.1.2.1
    have ht3 := t3_r hB
    have hrm : sc 8052 = t3 (mny nw nb W B) := hD.1
    have hw := wkn_r hF hL (i := i) (b := (b : Int)) (by omega) k
    have hm3 := hB (b : Int) (by omega) (by omega)
    have hnr : 0 ≤ i - x3 (mny nw nb W B) i (b : Int) * s3 (mny nw nb W B) (b : Int) + (k : Int) * s3 (mny nw nb W B) (b : Int) ∧ i - x3 (mny nw nb W B) i (b : Int) * s3 (mny nw nb W B) (b : Int) + (k : Int) * s3 (mny nw nb W B) (b : Int) < t3 (mny nw nb W B) := (n3_x hB hi (b := (b : Int)) (k := (k : Int)) (c := 0) (by omega) (by omega) (by omega)).1
    have hg1 := rgn_r hF hL i (b := (b : Int)) (by omega)
    have hg2 := rgn_r hF hL (nbr nw nb W B i (b : Int) (k : Int)) (b := (b : Int)) (by omega)
    refine RQ.seg 4 (pc' := 51) (L' := [some (.ref 80), some (.int (iI i)), some (.int (iI l)), some (.int (iI u)), some (.int (iI (b : Int))), some (.int (iI (i - x3 (mny nw nb W B) i (b : Int) * s3 (mny nw nb W B) (b : Int)))), some (.int (iI (wkn nw nb W B law i (b : Int) k))), some (.int (iI (k : Int))), e8]) (st' := [.int (iI (b : Int)), .ref 95, .int (iI (k : Int))]) (g1 := (HW sc ar tx oc rl ou tl, q)) rfl ?_
    refine RQ.ialdv (z := (b : Int)) (v := (mny nw nb W B (b : Int))) rfl rfl rfl (by omega) (by decide) ((hP (b : Int) (by omega) (by omega)).1.trans (mny_t (by omega)).symm) ?_
    refine RQ.if2 (a := (k : Int)) (b := (mny nw nb W B (b : Int))) rfl rfl rfl rfl (by omega) (by omega) (fun (q : mny nw nb W B (b : Int) ≤ (k : Int)) => absurd q (show ¬ mny nw nb W B (b : Int) ≤ (k : Int) from by omega)) (fun _ => ?_)
    refine RQ.seg 4 (pc' := 62) (L' := [some (.ref 80), some (.int (iI i)), some (.int (iI l)), some (.int (iI u)), some (.int (iI (b : Int))), some (.int (iI (i - x3 (mny nw nb W B) i (b : Int) * s3 (mny nw nb W B) (b : Int)))), some (.int (iI (wkn nw nb W B law i (b : Int) k))), some (.int (iI (k : Int))), e8]) (st' := [.int (iI (b : Int)), .ref 80, .int (iI (k : Int)), .int (iI (i - x3 (mny nw nb W B) i (b : Int) * s3 (mny nw nb W B) (b : Int)))]) (g1 := (HW sc ar tx oc rl ou tl, q)) rfl ?_
    refine RQ.call rfl rfl (CallR.up (d := 1) (m_stride (d := 0) (b := (b : Int)) hF hM hP (by omega)) (by omega)) ?_
    refine RQ.seg 6 (pc' := 75) (L' := [some (.ref 80), some (.int (iI i)), some (.int (iI l)), some (.int (iI u)), some (.int (iI (b : Int))), some (.int (iI (i - x3 (mny nw nb W B) i (b : Int) * s3 (mny nw nb W B) (b : Int)))), some (.int (iI (wkn nw nb W B law i (b : Int) k))), some (.int (iI (k : Int))), some (.int ((iI (i - x3 (mny nw nb W B) i (b : Int) * s3 (mny nw nb W B) (b : Int))) + ((iI (k : Int)) * (iI (s3 (mny nw nb W B) (b : Int))))))]) (st' := [.int ((iI (i - x3 (mny nw nb W B) i (b : Int) * s3 (mny nw nb W B) (b : Int))) + ((iI (k : Int)) * (iI (s3 (mny nw nb W B) (b : Int))))), .ref 109]) (g1 := (HW sc ar tx oc rl ou tl, q)) rfl ?_
    refine RQ.ialdv (z := (i - x3 (mny nw nb W B) i (b : Int) * s3 (mny nw nb W B) (b : Int) + ((k : Int) * (s3 (mny nw nb W B) (b : Int))))) (v := (mkb nb B (PI nw nb W B (nbr nw nb W B i (b : Int) (k : Int))))) rfl (by simp only [iI_add, iI_sub, iI_mul, iI_neg]) rfl (by omega) (by decide) (hD.2 (nbr nw nb W B i (b : Int) (k : Int)) (by exact hnr.1) (by exact hnr.2)).2.1 ?_
    refine RQ.seg 1 (pc' := 78) (L' := [some (.ref 80), some (.int (iI i)), some (.int (iI l)), some (.int (iI u)), some (.int (iI (b : Int))), some (.int (iI (i - x3 (mny nw nb W B) i (b : Int) * s3 (mny nw nb W B) (b : Int)))), some (.int (iI (wkn nw nb W B law i (b : Int) k))), some (.int (iI (k : Int))), some (.int ((iI (i - x3 (mny nw nb W B) i (b : Int) * s3 (mny nw nb W B) (b : Int))) + ((iI (k : Int)) * (iI (s3 (mny nw nb W B) (b : Int))))))]) (st' := [.int (iI (b : Int)), .int (iI (mkb nb B (PI nw nb W B (nbr nw nb W B i (b : Int) (k : Int)))))]) (g1 := (HW sc ar tx oc rl ou tl, q)) rfl ?_
    refine RQ.to (L' := [some (.ref 80), some (.int (iI i)), some (.int (iI l)), some (.int (iI u)), some (.int (iI (b : Int))), some (.int (iI (i - x3 (mny nw nb W B) i (b : Int) * s3 (mny nw nb W B) (b : Int)))), some (.int (iI (wkn nw nb W B law i (b : Int) k))), some (.int (iI (k : Int))), some (.int (iI (i - x3 (mny nw nb W B) i (b : Int) * s3 (mny nw nb W B) (b : Int) + ((k : Int) * (s3 (mny nw nb W B) (b : Int))))))]) (st' := [.int (iI (b : Int)), .int (iI (mkb nb B (PI nw nb W B (nbr nw nb W B i (b : Int) (k : Int)))))]) (by simp only [iI_add, iI_sub, iI_mul, iI_neg]) rfl ?_
    rcases (show rbk nw nb W B (nbr nw nb W B i (b : Int) (k : Int)) (b : Int) = 1 ∨ rbk nw nb W B (nbr nw nb W B i (b : Int) (k : Int)) (b : Int) = 0 by have := rbk_r (nw := nw) (nb := nb) (W := W) (B := B) (nbr nw nb W B i (b : Int) (k : Int)) (b : Int); omega) with hbk | hbk
    · skip
      refine RQ.call rfl rfl (CallR.up (d := 1) (m_hasB_t (d := 0) (by omega) (by omega) hbk) (by omega)) ?_
      refine RQ.seg 3 (pc' := 43) (L' := [some (.ref 80), some (.int (iI i)), some (.int (iI l)), some (.int (iI u)), some (.int (iI (b : Int))), some (.int (iI (i - x3 (mny nw nb W B) i (b : Int) * s3 (mny nw nb W B) (b : Int)))), some (.int (iI (wkn nw nb W B law i (b : Int) k))), some (.int ((iI (k : Int)) + (iI 1))), some (.int (iI (i - x3 (mny nw nb W B) i (b : Int) * s3 (mny nw nb W B) (b : Int) + ((k : Int) * (s3 (mny nw nb W B) (b : Int))))))]) (st' := []) (g1 := (HW sc ar tx oc rl ou tl, q)) rfl ?_
      refine RQ.to (L' := [some (.ref 80), some (.int (iI i)), some (.int (iI l)), some (.int (iI u)), some (.int (iI (b : Int))), some (.int (iI (i - x3 (mny nw nb W B) i (b : Int) * s3 (mny nw nb W B) (b : Int)))), some (.int (iI (wkn nw nb W B law i (b : Int) k))), some (.int (iI ((k : Int) + 1))), some (.int (iI (i - x3 (mny nw nb W B) i (b : Int) * s3 (mny nw nb W B) (b : Int) + ((k : Int) * (s3 (mny nw nb W B) (b : Int))))))]) (st' := []) (by simp only [iI_add, iI_sub, iI_mul, iI_neg]) rfl ?_
      have e9 : wkn nw nb W B law i (b : Int) k = wkn nw nb W B law i (b : Int) (k + 1) := by rw [wkn]; first | rw [if_pos (by omega)] | rw [if_neg (by omega)]
      rw [e9]
      exact m_pf_k hF hM hP hD hL hi hb hk m (k + 1) _ (by omega)
    · skip
      refine RQ.call rfl rfl (CallR.up (d := 1) (m_hasB_f (d := 0) (by omega) (by omega) hbk) (by omega)) ?_
      refine RQ.seg 9 (pc' := 97) (L' := [some (.ref 80), some (.int (iI i)), some (.int (iI l)), some (.int (iI u)), some (.int (iI (b : Int))), some (.int (iI (i - x3 (mny nw nb W B) i (b : Int) * s3 (mny nw nb W B) (b : Int)))), some (.int (iI (wkn nw nb W B law i (b : Int) k))), some (.int (iI (k : Int))), some (.int (iI (i - x3 (mny nw nb W B) i (b : Int) * s3 (mny nw nb W B) (b : Int) + ((k : Int) * (s3 (mny nw nb W B) (b : Int))))))]) (st' := [.int (((iI 3) * (iI (i - x3 (mny nw nb W B) i (b : Int) * s3 (mny nw nb W B) (b : Int) + ((k : Int) * (s3 (mny nw nb W B) (b : Int)))))) + (iI (b : Int))), .ref 107, .int (iI (wkn nw nb W B law i (b : Int) k))]) (g1 := (HW sc ar tx oc rl ou tl, q)) rfl ?_
      refine RQ.ialdv (z := (3 * (i - x3 (mny nw nb W B) i (b : Int) * s3 (mny nw nb W B) (b : Int) + ((k : Int) * (s3 (mny nw nb W B) (b : Int)))) + (b : Int))) (v := (rgn nw nb W B law (nbr nw nb W B i (b : Int) (k : Int)) (b : Int))) rfl (by simp only [iI_add, iI_sub, iI_mul, iI_neg]) rfl (by omega) (by decide) ((hD.2 (nbr nw nb W B i (b : Int) (k : Int)) (by exact hnr.1) (by exact hnr.2)).2.2.2 (b : Int) (by omega) (by omega)) ?_
      refine RQ.call rfl rfl (CallR.up (d := 1) (x_max (d := 0) (a := (wkn nw nb W B law i (b : Int) k)) (b := (rgn nw nb W B law (nbr nw nb W B i (b : Int) (k : Int)) (b : Int))) (by omega) (by omega)) (by omega)) ?_
      refine RQ.seg 3 (pc' := 43) (L' := [some (.ref 80), some (.int (iI i)), some (.int (iI l)), some (.int (iI u)), some (.int (iI (b : Int))), some (.int (iI (i - x3 (mny nw nb W B) i (b : Int) * s3 (mny nw nb W B) (b : Int)))), some (.int (iI (max (wkn nw nb W B law i (b : Int) k) (rgn nw nb W B law (nbr nw nb W B i (b : Int) (k : Int)) (b : Int))))), some (.int ((iI (k : Int)) + (iI 1))), some (.int (iI (i - x3 (mny nw nb W B) i (b : Int) * s3 (mny nw nb W B) (b : Int) + ((k : Int) * (s3 (mny nw nb W B) (b : Int))))))]) (st' := []) (g1 := (HW sc ar tx oc rl ou tl, q)) rfl ?_
      refine RQ.to (L' := [some (.ref 80), some (.int (iI i)), some (.int (iI l)), some (.int (iI u)), some (.int (iI (b : Int))), some (.int (iI (i - x3 (mny nw nb W B) i (b : Int) * s3 (mny nw nb W B) (b : Int)))), some (.int (iI (max (wkn nw nb W B law i (b : Int) k) (rgn nw nb W B law (nbr nw nb W B i (b : Int) (k : Int)) (b : Int))))), some (.int (iI ((k : Int) + 1))), some (.int (iI (i - x3 (mny nw nb W B) i (b : Int) * s3 (mny nw nb W B) (b : Int) + ((k : Int) * (s3 (mny nw nb W B) (b : Int))))))]) (st' := []) (by simp only [iI_add, iI_sub, iI_mul, iI_neg]) rfl ?_
      have e9 : max (wkn nw nb W B law i (b : Int) k) (rgn nw nb W B law (nbr nw nb W B i (b : Int) (k : Int)) (b : Int)) = wkn nw nb W B law i (b : Int) (k + 1) := by rw [wkn]; first | rw [if_pos (by omega)] | rw [if_neg (by omega)]
      rw [e9]
      exact m_pf_k hF hM hP hD hL hi hb hk m (k + 1) _ (by omega)
theorem pyn_none {nw nb : Int} {W B : Int → Int → Int} {law : Int → Int} {i : Int} (n : Nat) (h : pyn nw nb W B law i n = none) : ∀ m, n ≤ m → pyn nw nb W B law i m = none
  | 0, hm => by obtain rfl : n = 0 := by omega
                exact h
  | m + 1, hm => by
    by_cases e : n = m + 1
    · subst e; exact h
    · rw [pyn, pyn_none n h m (by omega)]
theorem m_pf_b {K : PK} {d : Nat} {sc : Nat → Int} {ar : Nat → Int → Int} {tx oc : Nat} {rl : Nat → Option Nat} {ou : Nat → Int64} {tl : List PO} {q : Nat × Nat} {Q : Option Value → PG → Prop} {i : Int} {nw nb : Int} {W B : Int → Int → Int} (hF : FrOK nw nb W B) (hM : FrM (sc 8024) (sc 8025) (ar 85) (ar 86) nw nb W B) (hP : PMx nw nb W B (ar 94) (ar 95)) {law : Int → Int} (hD : LyR nw nb W B law sc ar) (hL : LwOK law) (hi : 0 ≤ i ∧ i < t3 (mny nw nb W B)) (hq : Q (some (.int (iI (pyv nw nb W B law i)))) (HW sc ar tx oc rl ou tl, q)) : ∀ (m b : Nat) (l u : Int) (e5 e6 e7 e8 : Option Value) (hm : (b : Int) + m = nb) (hp : pyn nw nb W B law i b = some (l, u)), RQ K (d + 3) 11 false (some .int) cd215 8 [some (.ref 80), some (.int (iI i)), some (.int (iI l)), some (.int (iI u)), some (.int (iI (b : Int))), e5, e6, e7, e8] [] (HW sc ar tx oc rl ou tl, q) Q
  | 0, b, l, u, e5, e6, e7, e8, hm, hp => by
    have hn := hF.1
    have hm1 := hM.1
    have hm2 := hM.2.1
    have hB := mny_b (nw := nw) (nb := nb) (W := W) (B := B) hF.1.2.1
    have ht3 := t3_r hB
    have hrm : sc 8052 = t3 (mny nw nb W B) := hD.1
    have hlu := pyn_r hF hL b (by omega) l u hp
    refine RQ.seg 3 (pc' := 14) (L' := [some (.ref 80), some (.int (iI i)), some (.int (iI l)), some (.int (iI u)), some (.int (iI (b : Int))), e5, e6, e7, e8]) (st' := [.int (iI (sc 8025)), .int (iI (b : Int))]) (g1 := (HW sc ar tx oc rl ou tl, q)) rfl ?_
    refine RQ.if2 (a := (b : Int)) (b := (sc 8025)) rfl rfl rfl rfl (by omega) (by omega) (fun _ => ?_) (fun (q : ¬ sc 8025 ≤ (b : Int)) => absurd (show sc 8025 ≤ (b : Int) from by omega) q)
    refine RQ.seg 2 (pc' := 170) (L' := [some (.ref 80), some (.int (iI i)), some (.int (iI l)), some (.int (iI u)), some (.int (iI (b : Int))), e5, e6, e7, e8]) (st' := [.int (iI u), .int (iI l)]) (g1 := (HW sc ar tx oc rl ou tl, q)) rfl ?_
    refine RQ.if2 (a := l) (b := u) rfl rfl rfl rfl (by omega) (by omega) (fun (h2 : u < l) => ?_) (fun (h2 : ¬ u < l) => ?_)
    · skip
      refine RQ.seg 1 (pc' := 178) (L' := [some (.ref 80), some (.int (iI i)), some (.int (iI l)), some (.int (iI u)), some (.int (iI (b : Int))), e5, e6, e7, e8]) (st' := [.int (iI (-1))]) (g1 := (HW sc ar tx oc rl ou tl, q)) rfl ?_
      refine RQ.ret rfl rfl ?_
      unfold pyv at hq; rw [show nb.toNat = b by omega, hp] at hq; dsimp only at hq
      first | (rw [if_pos (by omega)] at hq; exact hq) | (rw [if_neg (by omega)] at hq; exact hq)
    · skip
      refine RQ.seg 2 (pc' := 178) (L' := [some (.ref 80), some (.int (iI i)), some (.int (iI l)), some (.int (iI u)), some (.int (iI (b : Int))), e5, e6, e7, e8]) (st' := [.int (iI l)]) (g1 := (HW sc ar tx oc rl ou tl, q)) rfl ?_
      refine RQ.ret rfl rfl ?_
      unfold pyv at hq; rw [show nb.toNat = b by omega, hp] at hq; dsimp only at hq
      first | (rw [if_pos (by omega)] at hq; exact hq) | (rw [if_neg (by omega)] at hq; exact hq)
  | m + 1, b, l, u, e5, e6, e7, e8, hm, hp => by
    have hn := hF.1
    have hm1 := hM.1
    have hm2 := hM.2.1
    have hB := mny_b (nw := nw) (nb := nb) (W := W) (B := B) hF.1.2.1
    have ht3 := t3_r hB
    have hrm : sc 8052 = t3 (mny nw nb W B) := hD.1
    have hlu := pyn_r hF hL b (by omega) l u hp
    have hm3 := hB (b : Int) (by omega) (by omega)
    have hg1 := rgn_r hF hL i (b := (b : Int)) (by omega)
    have hw := wkn_r hF hL (i := i) (b := (b : Int)) (by omega) (mny nw nb W B (b : Int)).toNat
    have hw2 : -1000000 ≤ wrk nw nb W B law i (b : Int) ∧ wrk nw nb W B law i (b : Int) ≤ 4000 := hw
    refine RQ.seg 3 (pc' := 14) (L' := [some (.ref 80), some (.int (iI i)), some (.int (iI l)), some (.int (iI u)), some (.int (iI (b : Int))), e5, e6, e7, e8]) (st' := [.int (iI (sc 8025)), .int (iI (b : Int))]) (g1 := (HW sc ar tx oc rl ou tl, q)) rfl ?_
    refine RQ.if2 (a := (b : Int)) (b := (sc 8025)) rfl rfl rfl rfl (by omega) (by omega) (fun (q : sc 8025 ≤ (b : Int)) => absurd q (show ¬ sc 8025 ≤ (b : Int) from by omega)) (fun _ => ?_)
    refine RQ.seg 4 (pc' := 22) (L' := [some (.ref 80), some (.int (iI i)), some (.int (iI l)), some (.int (iI u)), some (.int (iI (b : Int))), e5, e6, e7, e8]) (st' := [.int (iI (b : Int)), .int (iI i), .ref 80, .int (iI i)]) (g1 := (HW sc ar tx oc rl ou tl, q)) rfl ?_
    refine RQ.call rfl rfl (CallR.up (d := 2) (m_putAt (d := 0) (i := i) (b := (b : Int)) hF hM hP (by omega) (by omega)) (by omega)) ?_
    refine RQ.seg 2 (pc' := 28) (L' := [some (.ref 80), some (.int (iI i)), some (.int (iI l)), some (.int (iI u)), some (.int (iI (b : Int))), e5, e6, e7, e8]) (st' := [.int (iI (b : Int)), .ref 80, .int (iI (x3 (mny nw nb W B) i (b : Int))), .int (iI i)]) (g1 := (HW sc ar tx oc rl ou tl, q)) rfl ?_
    refine RQ.call rfl rfl (CallR.up (d := 1) (m_stride (d := 0) (b := (b : Int)) hF hM hP (by omega)) (by omega)) ?_
    refine RQ.seg 7 (pc' := 43) (L' := [some (.ref 80), some (.int (iI i)), some (.int (iI l)), some (.int (iI u)), some (.int (iI (b : Int))), some (.int ((iI i) - ((iI (x3 (mny nw nb W B) i (b : Int))) * (iI (s3 (mny nw nb W B) (b : Int)))))), some (.int (iI (-1000000))), some (.int (iI 0)), e8]) (st' := []) (g1 := (HW sc ar tx oc rl ou tl, q)) rfl ?_
    refine RQ.to (L' := [some (.ref 80), some (.int (iI i)), some (.int (iI l)), some (.int (iI u)), some (.int (iI (b : Int))), some (.int (iI (i - ((x3 (mny nw nb W B) i (b : Int)) * (s3 (mny nw nb W B) (b : Int)))))), some (.int (iI (-1000000))), some (.int (iI 0)), e8]) (st' := []) (by simp only [iI_add, iI_sub, iI_mul, iI_neg]) rfl ?_
    refine m_pf_k hF hM hP hD hL hi (b := b) (by omega) (fun e8 => ?_) (mny nw nb W B (b : Int)).toNat 0 _ (by omega)
    refine RQ.seg 3 (pc' := 114) (L' := [some (.ref 80), some (.int (iI i)), some (.int (iI l)), some (.int (iI u)), some (.int (iI (b : Int))), some (.int (iI (i - x3 (mny nw nb W B) i (b : Int) * s3 (mny nw nb W B) (b : Int)))), some (.int (iI (wrk nw nb W B law i (b : Int)))), some (.int (iI (mny nw nb W B (b : Int)))), e8]) (st' := [.int (iI i), .ref 109]) (g1 := (HW sc ar tx oc rl ou tl, q)) rfl ?_
    refine RQ.ialdv (z := i) (v := (mkb nb B (PI nw nb W B i))) rfl rfl rfl (by omega) (by decide) (hD.2 i (by omega) (by omega)).2.1 ?_
    refine RQ.seg 1 (pc' := 117) (L' := [some (.ref 80), some (.int (iI i)), some (.int (iI l)), some (.int (iI u)), some (.int (iI (b : Int))), some (.int (iI (i - x3 (mny nw nb W B) i (b : Int) * s3 (mny nw nb W B) (b : Int)))), some (.int (iI (wrk nw nb W B law i (b : Int)))), some (.int (iI (mny nw nb W B (b : Int)))), e8]) (st' := [.int (iI (b : Int)), .int (iI (mkb nb B (PI nw nb W B i)))]) (g1 := (HW sc ar tx oc rl ou tl, q)) rfl ?_
    rcases (show rbk nw nb W B i (b : Int) = 1 ∨ rbk nw nb W B i (b : Int) = 0 by have := rbk_r (nw := nw) (nb := nb) (W := W) (B := B) i (b : Int); omega) with h2 | h2
    · skip
      refine RQ.call rfl rfl (CallR.up (d := 1) (m_hasB_t (d := 0) (by omega) (by omega) h2) (by omega)) ?_
      refine RQ.seg 3 (pc' := 126) (L' := [some (.ref 80), some (.int (iI i)), some (.int (iI l)), some (.int (iI u)), some (.int (iI (b : Int))), some (.int (iI (i - x3 (mny nw nb W B) i (b : Int) * s3 (mny nw nb W B) (b : Int)))), some (.int (iI (wrk nw nb W B law i (b : Int)))), some (.int (iI (mny nw nb W B (b : Int)))), e8]) (st' := [.int (iI (wrk nw nb W B law i (b : Int))), .int (iI l)]) (g1 := (HW sc ar tx oc rl ou tl, q)) rfl ?_
      refine RQ.call rfl rfl (CallR.up (d := 1) (x_max (d := 0) (a := l) (b := (wrk nw nb W B law i (b : Int))) (by omega) (by omega)) (by omega)) ?_
      refine RQ.seg 4 (pc' := 8) (L' := [some (.ref 80), some (.int (iI i)), some (.int (iI (max l (wrk nw nb W B law i (b : Int))))), some (.int (iI u)), some (.int ((iI (b : Int)) + (iI 1))), some (.int (iI (i - x3 (mny nw nb W B) i (b : Int) * s3 (mny nw nb W B) (b : Int)))), some (.int (iI (wrk nw nb W B law i (b : Int)))), some (.int (iI (mny nw nb W B (b : Int)))), e8]) (st' := []) (g1 := (HW sc ar tx oc rl ou tl, q)) rfl ?_
      refine RQ.to (L' := [some (.ref 80), some (.int (iI i)), some (.int (iI (max l (wrk nw nb W B law i (b : Int))))), some (.int (iI u)), some (.int (iI ((b : Int) + 1))), some (.int (iI (i - x3 (mny nw nb W B) i (b : Int) * s3 (mny nw nb W B) (b : Int)))), some (.int (iI (wrk nw nb W B law i (b : Int)))), some (.int (iI (mny nw nb W B (b : Int)))), e8]) (st' := []) (by simp only [iI_add, iI_sub, iI_mul, iI_neg]) rfl ?_
      refine m_pf_b hF hM hP hD hL hi hq m (b + 1) (max l (wrk nw nb W B law i (b : Int))) u _ _ _ _ (by omega) ?_
      rw [pyn, hp]; dsimp only; first | rw [if_pos (by omega)] | rw [if_neg (by omega), if_neg (by omega)]
    · skip
      refine RQ.call rfl rfl (CallR.up (d := 1) (m_hasB_f (d := 0) (by omega) (by omega) h2) (by omega)) ?_
      refine RQ.seg 8 (pc' := 143) (L' := [some (.ref 80), some (.int (iI i)), some (.int (iI l)), some (.int (iI u)), some (.int (iI (b : Int))), some (.int (iI (i - x3 (mny nw nb W B) i (b : Int) * s3 (mny nw nb W B) (b : Int)))), some (.int (iI (wrk nw nb W B law i (b : Int)))), some (.int (iI (mny nw nb W B (b : Int)))), e8]) (st' := [.int (((iI 3) * (iI i)) + (iI (b : Int))), .ref 107]) (g1 := (HW sc ar tx oc rl ou tl, q)) rfl ?_
      refine RQ.ialdv (z := (3 * i + (b : Int))) (v := (rgn nw nb W B law i (b : Int))) rfl (by simp only [iI_add, iI_sub, iI_mul, iI_neg]) rfl (by omega) (by decide) ((hD.2 i (by omega) (by omega)).2.2.2 (b : Int) (by omega) (by omega)) ?_
      refine RQ.seg 3 (pc' := 150) (L' := [some (.ref 80), some (.int (iI i)), some (.int (iI l)), some (.int (iI u)), some (.int (iI (b : Int))), some (.int (iI (i - x3 (mny nw nb W B) i (b : Int) * s3 (mny nw nb W B) (b : Int)))), some (.int (iI (wrk nw nb W B law i (b : Int)))), some (.int (iI (rgn nw nb W B law i (b : Int)))), e8]) (st' := [.int (iI (wrk nw nb W B law i (b : Int))), .int (iI (rgn nw nb W B law i (b : Int)))]) (g1 := (HW sc ar tx oc rl ou tl, q)) rfl ?_
      refine RQ.if2 (a := (rgn nw nb W B law i (b : Int))) (b := (wrk nw nb W B law i (b : Int))) rfl rfl rfl rfl (by omega) (by omega) (fun (h3 : wrk nw nb W B law i (b : Int) ≤ rgn nw nb W B law i (b : Int)) => ?_) (fun (h3 : ¬ wrk nw nb W B law i (b : Int) ≤ rgn nw nb W B law i (b : Int)) => ?_)
      · skip
        refine RQ.seg 2 (pc' := 158) (L' := [some (.ref 80), some (.int (iI i)), some (.int (iI l)), some (.int (iI u)), some (.int (iI (b : Int))), some (.int (iI (i - x3 (mny nw nb W B) i (b : Int) * s3 (mny nw nb W B) (b : Int)))), some (.int (iI (wrk nw nb W B law i (b : Int)))), some (.int (iI (rgn nw nb W B law i (b : Int)))), e8]) (st' := [.int (iI (rgn nw nb W B law i (b : Int))), .int (iI u)]) (g1 := (HW sc ar tx oc rl ou tl, q)) rfl ?_
        refine RQ.call rfl rfl (CallR.up (d := 1) (x_min (d := 0) (a := u) (b := (rgn nw nb W B law i (b : Int))) (by omega) (by omega)) (by omega)) ?_
        refine RQ.seg 3 (pc' := 8) (L' := [some (.ref 80), some (.int (iI i)), some (.int (iI l)), some (.int (iI (min u (rgn nw nb W B law i (b : Int))))), some (.int ((iI (b : Int)) + (iI 1))), some (.int (iI (i - x3 (mny nw nb W B) i (b : Int) * s3 (mny nw nb W B) (b : Int)))), some (.int (iI (wrk nw nb W B law i (b : Int)))), some (.int (iI (rgn nw nb W B law i (b : Int)))), e8]) (st' := []) (g1 := (HW sc ar tx oc rl ou tl, q)) rfl ?_
        refine RQ.to (L' := [some (.ref 80), some (.int (iI i)), some (.int (iI l)), some (.int (iI (min u (rgn nw nb W B law i (b : Int))))), some (.int (iI ((b : Int) + 1))), some (.int (iI (i - x3 (mny nw nb W B) i (b : Int) * s3 (mny nw nb W B) (b : Int)))), some (.int (iI (wrk nw nb W B law i (b : Int)))), some (.int (iI (rgn nw nb W B law i (b : Int)))), e8]) (st' := []) (by simp only [iI_add, iI_sub, iI_mul, iI_neg]) rfl ?_
        refine m_pf_b hF hM hP hD hL hi hq m (b + 1) l (min u (rgn nw nb W B law i (b : Int))) _ _ _ _ (by omega) ?_
        rw [pyn, hp]; dsimp only; first | rw [if_pos (by omega)] | rw [if_neg (by omega), if_neg (by omega)]
      · skip
        refine RQ.seg 1 (pc' := 154) (L' := [some (.ref 80), some (.int (iI i)), some (.int (iI l)), some (.int (iI u)), some (.int (iI (b : Int))), some (.int (iI (i - x3 (mny nw nb W B) i (b : Int) * s3 (mny nw nb W B) (b : Int)))), some (.int (iI (wrk nw nb W B law i (b : Int)))), some (.int (iI (rgn nw nb W B law i (b : Int)))), e8]) (st' := [.int (iI (-1))]) (g1 := (HW sc ar tx oc rl ou tl, q)) rfl ?_
        refine RQ.ret rfl rfl ?_
        have e9 : pyn nw nb W B law i (b + 1) = none := by rw [pyn, hp]; dsimp only; rw [if_neg (by omega), if_pos (by omega)]
        have e10 := pyn_none (b + 1) e9 nb.toNat (by omega)
        unfold pyv at hq; rw [e10] at hq
        exact hq
theorem m_payFor {K : PK} {d : Nat} {sc : Nat → Int} {ar : Nat → Int → Int} {tx oc : Nat} {rl : Nat → Option Nat} {ou : Nat → Int64} {tl : List PO} {q : Nat × Nat} {i : Int} {nw nb : Int} {W B : Int → Int → Int} (hF : FrOK nw nb W B) (hM : FrM (sc 8024) (sc 8025) (ar 85) (ar 86) nw nb W B) (hP : PMx nw nb W B (ar 94) (ar 95)) {law : Int → Int} (hD : LyR nw nb W B law sc ar) (hL : LwOK law) (hi : 0 ≤ i ∧ i < t3 (mny nw nb W B)) : CallR K (d + 4) 215 [.ref 80, .int (iI i)] (HW sc ar tx oc rl ou tl, q) (some (.int (iI (pyv nw nb W B law i)))) (HW sc ar tx oc rl ou tl, q) := by
  apply CQ.x
  have hn := hF.1
  have hm1 := hM.1
  have hm2 := hM.2.1
  refine CQ.of (own := 11) (n := 9) (ini := false) (rt := (some .int)) (cd := cd215) (by decide +kernel) rfl (by decide +kernel) rfl (Nat.le_of_ble_eq_true rfl) ?_
  refine RQ.seg 6 (pc' := 8) (L' := [some (.ref 80), some (.int (iI i)), some (.int (iI 0)), some (.int (iI 99)), some (.int (iI 0)), none, none, none, none]) (st' := []) (g1 := (HW sc ar tx oc rl ou tl, q)) rfl ?_
  exact m_pf_b hF hM hP hD hL hi ⟨rfl, rfl⟩ nb.toNat 0 0 99 _ _ _ _ (by omega) rfl
