/-! the reference settles feet, by wip/tools -/
theorem m_lf_o {K : PK} {d : Nat} {sc : Nat → Int} {ar : Nat → Int → Int} {tx oc : Nat} {rl : Nat → Option Nat} {ou : Nat → Int64} {tl : List PO} {q : Nat × Nat} {Q : Option Value → PG → Prop} {b v : Int} {nw nb : Int} {W B : Int → Int → Int} (hF : FrOK nw nb W B) (hM : FrM (sc 8024) (sc 8025) (ar 85) (ar 86) nw nb W B) {P : Int → Int} (hPu : ∀ b, 0 ≤ b → b < nb → ar 96 b = P b) (hmy : PtOK nw nb W B P) (hb : 0 ≤ b ∧ b < nb) : ∀ (m : Nat) (n : Nat) (z : Int) (ho : (n : Int) + m = nb) (rz : 0 ≤ z ∧ z ≤ 1) (hz : z = bkn B P b n) (hk : ∀ z : Int, z = bkv nb B P b → RQ K (d + 0) 11 false none cd195 152 [some (.ref 80), some (.int (iI b)), some (.int (iI z)), some (.int (iI nb))] [] (HW (usc sc 8046 v) ar tx oc rl ou tl, q) Q), RQ K (d + 0) 11 false none cd195 34 [some (.ref 80), some (.int (iI b)), some (.int (iI z)), some (.int (iI (n : Int)))] [] (HW (usc sc 8046 v) ar tx oc rl ou tl, q) Q
  | 0, n, z, ho, rz, hz, hk => by
    have hn := hF.1
    have hm1 := hM.1
    have hm2 := hM.2.1
    refine RQ.seg 3 (pc' := 39) (L' := [some (.ref 80), some (.int (iI b)), some (.int (iI z)), some (.int (iI (n : Int)))]) (st' := [.int (iI (sc 8025)), .int (iI (n : Int))]) (g1 := (HW (usc sc 8046 v) ar tx oc rl ou tl, q)) rfl ?_
    refine RQ.if2 (a := (n : Int)) (b := (sc 8025)) rfl rfl rfl rfl (by omega) (by omega) (fun _ => ?_) (fun (q : ¬ sc 8025 ≤ (n : Int)) => absurd (show sc 8025 ≤ (n : Int) from by omega) q)
    obtain rfl : nb = (n : Int) := by omega
    exact hk z hz
  | m + 1, n, z, ho, rz, hz, hk => by
    have hn := hF.1
    have hm1 := hM.1
    have hm2 := hM.2.1
    refine RQ.seg 3 (pc' := 39) (L' := [some (.ref 80), some (.int (iI b)), some (.int (iI z)), some (.int (iI (n : Int)))]) (st' := [.int (iI (sc 8025)), .int (iI (n : Int))]) (g1 := (HW (usc sc 8046 v) ar tx oc rl ou tl, q)) rfl ?_
    refine RQ.if2 (a := (n : Int)) (b := (sc 8025)) rfl rfl rfl rfl (by omega) (by omega) (fun (q : sc 8025 ≤ (n : Int)) => absurd q (show ¬ sc 8025 ≤ (n : Int) from by omega)) (fun _ => ?_)
    refine RQ.seg 2 (pc' := 44) (L' := [some (.ref 80), some (.int (iI b)), some (.int (iI z)), some (.int (iI (n : Int)))]) (st' := [.int (iI b), .int (iI (n : Int))]) (g1 := (HW (usc sc 8046 v) ar tx oc rl ou tl, q)) rfl ?_
    refine RQ.if2 (a := (n : Int)) (b := b) rfl rfl rfl rfl (by omega) (by omega) (fun (h2 : (n : Int) = b) => ?_) (fun (h2 : ¬ (n : Int) = b) => ?_)
    · skip
      refine RQ.seg 2 (pc' := 34) (L' := [some (.ref 80), some (.int (iI b)), some (.int (iI z)), some (.int ((iI (n : Int)) + (iI 1)))]) (st' := []) (g1 := (HW (usc sc 8046 v) ar tx oc rl ou tl, q)) rfl ?_
      refine RQ.to (L' := [some (.ref 80), some (.int (iI b)), some (.int (iI z)), some (.int (iI ((n : Int) + 1)))]) (st' := []) (by simp only [iI_add, iI_sub, iI_mul, iI_neg]) rfl ?_
      refine m_lf_o hF hM hPu hmy hb m (n + 1) z (by omega) (by omega) ?_ hk
      rw [bkn]
      first | (rw [if_pos (by omega)]; done) | (rw [if_neg (by omega)]; done) | (rw [if_pos (by omega)]; omega) | (rw [if_neg (by omega)]; omega) | (split <;> omega)
    · skip
      refine RQ.seg 3 (pc' := 52) (L' := [some (.ref 80), some (.int (iI b)), some (.int (iI z)), some (.int (iI (n : Int)))]) (st' := [.int (iI (n : Int)), .ref 96]) (g1 := (HW (usc sc 8046 v) ar tx oc rl ou tl, q)) rfl ?_
      have hf1 := hmy.r (b := (n : Int)) (by omega) (by omega)
      refine RQ.ialdv (z := (n : Int)) (v := (P (n : Int))) rfl rfl rfl (by omega) (by decide) (hPu (n : Int) (by omega) (by omega)) ?_
      refine RQ.seg 1 (pc' := 55) (L' := [some (.ref 80), some (.int (iI b)), some (.int (iI z)), some (.int (iI (n : Int)))]) (st' := [.int (iI 99), .int (iI (P (n : Int)))]) (g1 := (HW (usc sc 8046 v) ar tx oc rl ou tl, q)) rfl ?_
      refine RQ.if2 (a := (P (n : Int))) (b := 99) rfl rfl rfl rfl (by omega) (by omega) (fun (h3 : P (n : Int) = 99) => ?_) (fun (h3 : ¬ P (n : Int) = 99) => ?_)
      · skip
        refine RQ.seg 2 (pc' := 34) (L' := [some (.ref 80), some (.int (iI b)), some (.int (iI z)), some (.int ((iI (n : Int)) + (iI 1)))]) (st' := []) (g1 := (HW (usc sc 8046 v) ar tx oc rl ou tl, q)) rfl ?_
        refine RQ.to (L' := [some (.ref 80), some (.int (iI b)), some (.int (iI z)), some (.int (iI ((n : Int) + 1)))]) (st' := []) (by simp only [iI_add, iI_sub, iI_mul, iI_neg]) rfl ?_
        refine m_lf_o hF hM hPu hmy hb m (n + 1) z (by omega) (by omega) ?_ hk
        rw [bkn]
        first | (rw [if_pos (by omega)]; done) | (rw [if_neg (by omega)]; done) | (rw [if_pos (by omega)]; omega) | (rw [if_neg (by omega)]; omega) | (split <;> omega)
      · skip
        refine RQ.seg 3 (pc' := 63) (L' := [some (.ref 80), some (.int (iI b)), some (.int (iI z)), some (.int (iI (n : Int)))]) (st' := [.int (iI b), .ref 96]) (g1 := (HW (usc sc 8046 v) ar tx oc rl ou tl, q)) rfl ?_
        have hf2 := hmy.r (b := b) (by omega) (by omega)
        refine RQ.ialdv (z := b) (v := (P b)) rfl rfl rfl (by omega) (by decide) (hPu b (by omega) (by omega)) ?_
        refine RQ.seg 1 (pc' := 66) (L' := [some (.ref 80), some (.int (iI b)), some (.int (iI z)), some (.int (iI (n : Int)))]) (st' := [.int (iI 99), .int (iI (P b))]) (g1 := (HW (usc sc 8046 v) ar tx oc rl ou tl, q)) rfl ?_
        refine RQ.if2 (a := (P b)) (b := 99) rfl rfl rfl rfl (by omega) (by omega) (fun (h4 : P b = 99) => ?_) (fun (h4 : ¬ P b = 99) => ?_)
        · skip
          refine RQ.seg 2 (pc' := 34) (L' := [some (.ref 80), some (.int (iI b)), some (.int (iI z)), some (.int ((iI (n : Int)) + (iI 1)))]) (st' := []) (g1 := (HW (usc sc 8046 v) ar tx oc rl ou tl, q)) rfl ?_
          refine RQ.to (L' := [some (.ref 80), some (.int (iI b)), some (.int (iI z)), some (.int (iI ((n : Int) + 1)))]) (st' := []) (by simp only [iI_add, iI_sub, iI_mul, iI_neg]) rfl ?_
          refine m_lf_o hF hM hPu hmy hb m (n + 1) z (by omega) (by omega) ?_ hk
          rw [bkn]
          first | (rw [if_pos (by omega)]; done) | (rw [if_neg (by omega)]; done) | (rw [if_pos (by omega)]; omega) | (rw [if_neg (by omega)]; omega) | (split <;> omega)
        · skip
          refine RQ.seg 3 (pc' := 74) (L' := [some (.ref 80), some (.int (iI b)), some (.int (iI z)), some (.int (iI (n : Int)))]) (st' := [.int (iI (n : Int)), .ref 96]) (g1 := (HW (usc sc 8046 v) ar tx oc rl ou tl, q)) rfl ?_
          refine RQ.ialdv (z := (n : Int)) (v := (P (n : Int))) rfl rfl rfl (by omega) (by decide) (hPu (n : Int) (by omega) (by omega)) ?_
          refine RQ.seg 1 (pc' := 77) (L' := [some (.ref 80), some (.int (iI b)), some (.int (iI z)), some (.int (iI (n : Int)))]) (st' := [.int (iI 10), .int (iI (P (n : Int)))]) (g1 := (HW (usc sc 8046 v) ar tx oc rl ou tl, q)) rfl ?_
          refine RQ.idiv (a := (P (n : Int))) (b := 10) rfl rfl rfl (by omega) (by omega) ?_
          refine RQ.seg 3 (pc' := 83) (L' := [some (.ref 80), some (.int (iI b)), some (.int (iI z)), some (.int (iI (n : Int)))]) (st' := [.int (iI b), .ref 96, .int (iI ((P (n : Int)) / 10))]) (g1 := (HW (usc sc 8046 v) ar tx oc rl ou tl, q)) rfl ?_
          refine RQ.ialdv (z := b) (v := (P b)) rfl rfl rfl (by omega) (by decide) (hPu b (by omega) (by omega)) ?_
          refine RQ.seg 1 (pc' := 86) (L' := [some (.ref 80), some (.int (iI b)), some (.int (iI z)), some (.int (iI (n : Int)))]) (st' := [.int (iI 10), .int (iI (P b)), .int (iI ((P (n : Int)) / 10))]) (g1 := (HW (usc sc 8046 v) ar tx oc rl ou tl, q)) rfl ?_
          refine RQ.idiv (a := (P b)) (b := 10) rfl rfl rfl (by omega) (by omega) ?_
          refine RQ.if2 (a := ((P (n : Int)) / 10)) (b := ((P b) / 10)) rfl rfl rfl rfl (by omega) (by omega) (fun (h5 : (P (n : Int)) / 10 = (P b) / 10) => ?_) (fun (h5 : ¬ (P (n : Int)) / 10 = (P b) / 10) => ?_)
          · skip
            refine RQ.seg 1 (pc' := 94) (L' := [some (.ref 80), some (.int (iI b)), some (.int (iI z)), some (.int (iI (n : Int)))]) (st' := [.int (iI z)]) (g1 := (HW (usc sc 8046 v) ar tx oc rl ou tl, q)) rfl ?_
            refine RQ.if1 (a := z) rfl rfl rfl (by omega) (fun (h6 : z ≠ 0) => ?_) (fun (h6 : ¬ z ≠ 0) => ?_)
            · skip
              refine RQ.seg 5 (pc' := 34) (L' := [some (.ref 80), some (.int (iI b)), some (.int (iI 1)), some (.int ((iI (n : Int)) + (iI 1)))]) (st' := []) (g1 := (HW (usc sc 8046 v) ar tx oc rl ou tl, q)) rfl ?_
              refine RQ.to (L' := [some (.ref 80), some (.int (iI b)), some (.int (iI 1)), some (.int (iI ((n : Int) + 1)))]) (st' := []) (by simp only [iI_add, iI_sub, iI_mul, iI_neg]) rfl ?_
              refine m_lf_o hF hM hPu hmy hb m (n + 1) 1 (by omega) (by omega) ?_ hk
              rw [bkn]
              first | (rw [if_pos (by omega)]; done) | (rw [if_neg (by omega)]; done) | (rw [if_pos (by omega)]; omega) | (rw [if_neg (by omega)]; omega) | (split <;> omega)
            · skip
              refine RQ.seg 5 (pc' := 104) (L' := [some (.ref 80), some (.int (iI b)), some (.int (iI z)), some (.int (iI (n : Int)))]) (st' := [.int ((iI 3) * (iI (n : Int))), .ref 86]) (g1 := (HW (usc sc 8046 v) ar tx oc rl ou tl, q)) rfl ?_
              have hf3 := hF.2.2 (n : Int) (by omega) (by omega)
              refine RQ.ialdv (z := (3 * (n : Int))) (v := (B (n : Int) 0)) rfl (by simp only [iI_add, iI_sub, iI_mul, iI_neg]) rfl (by omega) (by decide) (frm_b0 hM (by omega) (by omega)) ?_
              refine RQ.seg 5 (pc' := 112) (L' := [some (.ref 80), some (.int (iI b)), some (.int (iI z)), some (.int (iI (n : Int)))]) (st' := [.int ((iI 3) * (iI b)), .ref 86, .int (iI (B (n : Int) 0))]) (g1 := (HW (usc sc 8046 v) ar tx oc rl ou tl, q)) rfl ?_
              have hf4 := hF.2.2 b (by omega) (by omega)
              refine RQ.ialdv (z := (3 * b)) (v := (B b 0)) rfl (by simp only [iI_add, iI_sub, iI_mul, iI_neg]) rfl (by omega) (by decide) (frm_b0 hM (by omega) (by omega)) ?_
              refine RQ.if2 (a := (B (n : Int) 0)) (b := (B b 0)) rfl rfl rfl rfl (by omega) (by omega) (fun (h7 : B (n : Int) 0 < B b 0) => ?_) (fun (h7 : ¬ B (n : Int) 0 < B b 0) => ?_)
              · skip
                refine RQ.seg 5 (pc' := 34) (L' := [some (.ref 80), some (.int (iI b)), some (.int (iI 1)), some (.int ((iI (n : Int)) + (iI 1)))]) (st' := []) (g1 := (HW (usc sc 8046 v) ar tx oc rl ou tl, q)) rfl ?_
                refine RQ.to (L' := [some (.ref 80), some (.int (iI b)), some (.int (iI 1)), some (.int (iI ((n : Int) + 1)))]) (st' := []) (by simp only [iI_add, iI_sub, iI_mul, iI_neg]) rfl ?_
                refine m_lf_o hF hM hPu hmy hb m (n + 1) 1 (by omega) (by omega) ?_ hk
                rw [bkn]
                first | (rw [if_pos (by omega)]; done) | (rw [if_neg (by omega)]; done) | (rw [if_pos (by omega)]; omega) | (rw [if_neg (by omega)]; omega) | (split <;> omega)
              · skip
                refine RQ.seg 5 (pc' := 123) (L' := [some (.ref 80), some (.int (iI b)), some (.int (iI z)), some (.int (iI (n : Int)))]) (st' := [.int ((iI 3) * (iI (n : Int))), .ref 86]) (g1 := (HW (usc sc 8046 v) ar tx oc rl ou tl, q)) rfl ?_
                refine RQ.ialdv (z := (3 * (n : Int))) (v := (B (n : Int) 0)) rfl (by simp only [iI_add, iI_sub, iI_mul, iI_neg]) rfl (by omega) (by decide) (frm_b0 hM (by omega) (by omega)) ?_
                refine RQ.seg 5 (pc' := 131) (L' := [some (.ref 80), some (.int (iI b)), some (.int (iI z)), some (.int (iI (n : Int)))]) (st' := [.int ((iI 3) * (iI b)), .ref 86, .int (iI (B (n : Int) 0))]) (g1 := (HW (usc sc 8046 v) ar tx oc rl ou tl, q)) rfl ?_
                refine RQ.ialdv (z := (3 * b)) (v := (B b 0)) rfl (by simp only [iI_add, iI_sub, iI_mul, iI_neg]) rfl (by omega) (by decide) (frm_b0 hM (by omega) (by omega)) ?_
                refine RQ.if2 (a := (B (n : Int) 0)) (b := (B b 0)) rfl rfl rfl rfl (by omega) (by omega) (fun (h8 : B (n : Int) 0 ≠ B b 0) => ?_) (fun (h8 : ¬ B (n : Int) 0 ≠ B b 0) => ?_)
                · skip
                  refine RQ.seg 4 (pc' := 34) (L' := [some (.ref 80), some (.int (iI b)), some (.int (iI 0)), some (.int ((iI (n : Int)) + (iI 1)))]) (st' := []) (g1 := (HW (usc sc 8046 v) ar tx oc rl ou tl, q)) rfl ?_
                  refine RQ.to (L' := [some (.ref 80), some (.int (iI b)), some (.int (iI 0)), some (.int (iI ((n : Int) + 1)))]) (st' := []) (by simp only [iI_add, iI_sub, iI_mul, iI_neg]) rfl ?_
                  refine m_lf_o hF hM hPu hmy hb m (n + 1) 0 (by omega) (by omega) ?_ hk
                  rw [bkn]
                  first | (rw [if_pos (by omega)]; done) | (rw [if_neg (by omega)]; done) | (rw [if_pos (by omega)]; omega) | (rw [if_neg (by omega)]; omega) | (split <;> omega)
                · skip
                  refine RQ.seg 2 (pc' := 137) (L' := [some (.ref 80), some (.int (iI b)), some (.int (iI z)), some (.int (iI (n : Int)))]) (st' := [.int (iI b), .int (iI (n : Int))]) (g1 := (HW (usc sc 8046 v) ar tx oc rl ou tl, q)) rfl ?_
                  refine RQ.if2 (a := (n : Int)) (b := b) rfl rfl rfl rfl (by omega) (by omega) (fun (h9 : b ≤ (n : Int)) => ?_) (fun (h9 : ¬ b ≤ (n : Int)) => ?_)
                  · skip
                    refine RQ.seg 4 (pc' := 34) (L' := [some (.ref 80), some (.int (iI b)), some (.int (iI 0)), some (.int ((iI (n : Int)) + (iI 1)))]) (st' := []) (g1 := (HW (usc sc 8046 v) ar tx oc rl ou tl, q)) rfl ?_
                    refine RQ.to (L' := [some (.ref 80), some (.int (iI b)), some (.int (iI 0)), some (.int (iI ((n : Int) + 1)))]) (st' := []) (by simp only [iI_add, iI_sub, iI_mul, iI_neg]) rfl ?_
                    refine m_lf_o hF hM hPu hmy hb m (n + 1) 0 (by omega) (by omega) ?_ hk
                    rw [bkn]
                    first | (rw [if_pos (by omega)]; done) | (rw [if_neg (by omega)]; done) | (rw [if_pos (by omega)]; omega) | (rw [if_neg (by omega)]; omega) | (split <;> omega)
                  · skip
                    refine RQ.seg 5 (pc' := 34) (L' := [some (.ref 80), some (.int (iI b)), some (.int (iI 1)), some (.int ((iI (n : Int)) + (iI 1)))]) (st' := []) (g1 := (HW (usc sc 8046 v) ar tx oc rl ou tl, q)) rfl ?_
                    refine RQ.to (L' := [some (.ref 80), some (.int (iI b)), some (.int (iI 1)), some (.int (iI ((n : Int) + 1)))]) (st' := []) (by simp only [iI_add, iI_sub, iI_mul, iI_neg]) rfl ?_
                    refine m_lf_o hF hM hPu hmy hb m (n + 1) 1 (by omega) (by omega) ?_ hk
                    rw [bkn]
                    first | (rw [if_pos (by omega)]; done) | (rw [if_neg (by omega)]; done) | (rw [if_pos (by omega)]; omega) | (rw [if_neg (by omega)]; omega) | (split <;> omega)
          · skip
            refine RQ.seg 3 (pc' := 34) (L' := [some (.ref 80), some (.int (iI b)), some (.int (iI z)), some (.int ((iI (n : Int)) + (iI 1)))]) (st' := []) (g1 := (HW (usc sc 8046 v) ar tx oc rl ou tl, q)) rfl ?_
            refine RQ.to (L' := [some (.ref 80), some (.int (iI b)), some (.int (iI z)), some (.int (iI ((n : Int) + 1)))]) (st' := []) (by simp only [iI_add, iI_sub, iI_mul, iI_neg]) rfl ?_
            refine m_lf_o hF hM hPu hmy hb m (n + 1) z (by omega) (by omega) ?_ hk
            rw [bkn]
            first | (rw [if_pos (by omega)]; done) | (rw [if_neg (by omega)]; done) | (rw [if_pos (by omega)]; omega) | (rw [if_neg (by omega)]; omega) | (split <;> omega)
theorem m_lf_b {K : PK} {d : Nat} {sc : Nat → Int} {ar : Nat → Int → Int} {tx oc : Nat} {rl : Nat → Option Nat} {ou : Nat → Int64} {tl : List PO} {q : Nat × Nat} {Q : Option Value → PG → Prop} {nw nb : Int} {W B : Int → Int → Int} (hF : FrOK nw nb W B) (hM : FrM (sc 8024) (sc 8025) (ar 85) (ar 86) nw nb W B) {P : Int → Int} (hPu : ∀ b, 0 ≤ b → b < nb → ar 96 b = P b) (hmy : PtOK nw nb W B P) : ∀ (m n : Nat) (e1 e2 : Option Value) (hb : (n : Int) + m = nb) (hk : Q none (HW (usc sc 8046 (mkb nb B P)) ar tx oc rl ou tl, q)), RQ K (d + 0) 11 false none cd195 7 [some (.ref 80), some (.int (iI (n : Int))), e1, e2] [] (HW (usc sc 8046 (mkn nb B P n)) ar tx oc rl ou tl, q) Q
  | 0, n, e1, e2, hb, hk => by
    have hn := hF.1
    have hm1 := hM.1
    have hm2 := hM.2.1
    refine RQ.seg 3 (pc' := 12) (L' := [some (.ref 80), some (.int (iI (n : Int))), e1, e2]) (st' := [.int (iI (sc 8025)), .int (iI (n : Int))]) (g1 := (HW (usc sc 8046 (mkn nb B P n)) ar tx oc rl ou tl, q)) rfl ?_
    refine RQ.if2 (a := (n : Int)) (b := (sc 8025)) rfl rfl rfl rfl (by omega) (by omega) (fun _ => ?_) (fun (q : ¬ sc 8025 ≤ (n : Int)) => absurd (show sc 8025 ≤ (n : Int) from by omega) q)
    refine RQ.ret rfl rfl ?_
    obtain rfl : nb = (n : Int) := by omega
    exact hk
  | m + 1, n, e1, e2, hb, hk => by
    have hn := hF.1
    have hm1 := hM.1
    have hm2 := hM.2.1
    refine RQ.seg 3 (pc' := 12) (L' := [some (.ref 80), some (.int (iI (n : Int))), e1, e2]) (st' := [.int (iI (sc 8025)), .int (iI (n : Int))]) (g1 := (HW (usc sc 8046 (mkn nb B P n)) ar tx oc rl ou tl, q)) rfl ?_
    refine RQ.if2 (a := (n : Int)) (b := (sc 8025)) rfl rfl rfl rfl (by omega) (by omega) (fun (q : sc 8025 ≤ (n : Int)) => absurd q (show ¬ sc 8025 ≤ (n : Int) from by omega)) (fun _ => ?_)
    refine RQ.seg 3 (pc' := 20) (L' := [some (.ref 80), some (.int (iI (n : Int))), e1, e2]) (st' := [.int (iI (n : Int)), .ref 96]) (g1 := (HW (usc sc 8046 (mkn nb B P n)) ar tx oc rl ou tl, q)) rfl ?_
    have hf1 := hmy.r (b := (n : Int)) (by omega) (by omega)
    refine RQ.ialdv (z := (n : Int)) (v := (P (n : Int))) rfl rfl rfl (by omega) (by decide) (hPu (n : Int) (by omega) (by omega)) ?_
    refine RQ.seg 1 (pc' := 23) (L' := [some (.ref 80), some (.int (iI (n : Int))), e1, e2]) (st' := [.int (iI 99), .int (iI (P (n : Int)))]) (g1 := (HW (usc sc 8046 (mkn nb B P n)) ar tx oc rl ou tl, q)) rfl ?_
    refine RQ.if2 (a := (P (n : Int))) (b := 99) rfl rfl rfl rfl (by omega) (by omega) (fun (h2 : P (n : Int) ≠ 99) => ?_) (fun (h2 : ¬ P (n : Int) ≠ 99) => ?_)
    · skip
      refine RQ.seg 4 (pc' := 34) (L' := [some (.ref 80), some (.int (iI (n : Int))), some (.int (iI 0)), some (.int (iI 0))]) (st' := []) (g1 := (HW (usc sc 8046 (mkn nb B P n)) ar tx oc rl ou tl, q)) rfl ?_
      refine m_lf_o hF hM hPu hmy (by omega) nb.toNat 0 0 (by omega) (by omega) (by rw [bkn]; first | rw [if_pos (by omega)] | rw [if_neg (by omega)]) (fun z hz => ?_)
      have hr := mkn_r nb B P (n := n) (by omega)
      have hz1 := bkv_r nb B P (n : Int)
      refine RQ.seg 4 (pc' := 158) (L' := [some (.ref 80), some (.int (iI (n : Int))), some (.int (iI z)), some (.int (iI nb))]) (st' := [.int (iI z), .int (iI (mkn nb B P n)), .ref 80]) (g1 := (HW (usc sc 8046 (mkn nb B P n)) ar tx oc rl ou tl, q)) rfl ?_
      refine RQ.if1 (a := z) rfl rfl rfl (by omega) (fun (h3 : z = 0) => ?_) (fun (h3 : ¬ z = 0) => ?_)
      · skip
        refine RQ.seg 1 (pc' := 168) (L' := [some (.ref 80), some (.int (iI (n : Int))), some (.int (iI z)), some (.int (iI nb))]) (st' := [.int (iI 0), .int (iI (mkn nb B P n)), .ref 80]) (g1 := (HW (usc sc 8046 (mkn nb B P n)) ar tx oc rl ou tl, q)) rfl ?_
        refine RQ.ior0 (a := (mkn nb B P n)) rfl rfl rfl ?_
        refine RQ.seg 3 (pc' := 7) (L' := [some (.ref 80), some (.int ((iI (n : Int)) + (iI 1))), some (.int (iI z)), some (.int (iI nb))]) (st' := []) (g1 := (HW (usc sc 8046 (mkn nb B P n)) ar tx oc rl ou tl, q)) rfl ?_
        refine RQ.to (L' := [some (.ref 80), some (.int (iI ((n : Int) + 1))), some (.int (iI z)), some (.int (iI nb))]) (st' := []) (by simp only [iI_add, iI_sub, iI_mul, iI_neg]) rfl ?_
        have e : mkn nb B P n = mkn nb B P (n + 1) := by rw [mkn]; first | rw [if_pos (by omega)] | rw [if_neg (by omega)]
        rw [e]
        exact m_lf_b hF hM hPu hmy m (n + 1) _ _ (by omega) hk
      · skip
        refine RQ.seg 2 (pc' := 163) (L' := [some (.ref 80), some (.int (iI (n : Int))), some (.int (iI z)), some (.int (iI nb))]) (st' := [.int (iI (n : Int)), .int (iI 1), .int (iI (mkn nb B P n)), .ref 80]) (g1 := (HW (usc sc 8046 (mkn nb B P n)) ar tx oc rl ou tl, q)) rfl ?_
        refine RQ.ishl1 (b := (n : Int)) rfl rfl rfl (by omega) ?_
        refine RQ.seg 1 (pc' := 168) (L' := [some (.ref 80), some (.int (iI (n : Int))), some (.int (iI z)), some (.int (iI nb))]) (st' := [.int (iI (2 ^ ((n : Int)).toNat)), .int (iI (mkn nb B P n)), .ref 80]) (g1 := (HW (usc sc 8046 (mkn nb B P n)) ar tx oc rl ou tl, q)) rfl ?_
        refine RQ.ior (a := (mkn nb B P n)) (b := ((n : Int))) rfl rfl rfl (by omega) (by omega) ?_
        refine RQ.seg 3 (pc' := 7) (L' := [some (.ref 80), some (.int ((iI (n : Int)) + (iI 1))), some (.int (iI z)), some (.int (iI nb))]) (st' := []) (g1 := (HW (usc sc 8046 (orz (mkn nb B P n) ((n : Int)))) ar tx oc rl ou tl, q)) rfl ?_
        refine RQ.to (L' := [some (.ref 80), some (.int (iI ((n : Int) + 1))), some (.int (iI z)), some (.int (iI nb))]) (st' := []) (by simp only [iI_add, iI_sub, iI_mul, iI_neg]) rfl ?_
        have e : orz (mkn nb B P n) ((n : Int)) = mkn nb B P (n + 1) := by rw [mkn]; first | rw [if_pos (by omega)] | rw [if_neg (by omega)]
        rw [e]
        exact m_lf_b hF hM hPu hmy m (n + 1) _ _ (by omega) hk
    · skip
      refine RQ.seg 5 (pc' := 34) (L' := [some (.ref 80), some (.int (iI (n : Int))), some (.int (iI 1)), some (.int (iI 0))]) (st' := []) (g1 := (HW (usc sc 8046 (mkn nb B P n)) ar tx oc rl ou tl, q)) rfl ?_
      refine m_lf_o hF hM hPu hmy (by omega) nb.toNat 0 1 (by omega) (by omega) (by rw [bkn]; first | rw [if_pos (by omega)] | rw [if_neg (by omega)]) (fun z hz => ?_)
      have hr := mkn_r nb B P (n := n) (by omega)
      have hz1 := bkv_r nb B P (n : Int)
      refine RQ.seg 4 (pc' := 158) (L' := [some (.ref 80), some (.int (iI (n : Int))), some (.int (iI z)), some (.int (iI nb))]) (st' := [.int (iI z), .int (iI (mkn nb B P n)), .ref 80]) (g1 := (HW (usc sc 8046 (mkn nb B P n)) ar tx oc rl ou tl, q)) rfl ?_
      refine RQ.if1 (a := z) rfl rfl rfl (by omega) (fun (h4 : z = 0) => ?_) (fun (h4 : ¬ z = 0) => ?_)
      · skip
        refine RQ.seg 1 (pc' := 168) (L' := [some (.ref 80), some (.int (iI (n : Int))), some (.int (iI z)), some (.int (iI nb))]) (st' := [.int (iI 0), .int (iI (mkn nb B P n)), .ref 80]) (g1 := (HW (usc sc 8046 (mkn nb B P n)) ar tx oc rl ou tl, q)) rfl ?_
        refine RQ.ior0 (a := (mkn nb B P n)) rfl rfl rfl ?_
        refine RQ.seg 3 (pc' := 7) (L' := [some (.ref 80), some (.int ((iI (n : Int)) + (iI 1))), some (.int (iI z)), some (.int (iI nb))]) (st' := []) (g1 := (HW (usc sc 8046 (mkn nb B P n)) ar tx oc rl ou tl, q)) rfl ?_
        refine RQ.to (L' := [some (.ref 80), some (.int (iI ((n : Int) + 1))), some (.int (iI z)), some (.int (iI nb))]) (st' := []) (by simp only [iI_add, iI_sub, iI_mul, iI_neg]) rfl ?_
        have e : mkn nb B P n = mkn nb B P (n + 1) := by rw [mkn]; first | rw [if_pos (by omega)] | rw [if_neg (by omega)]
        rw [e]
        exact m_lf_b hF hM hPu hmy m (n + 1) _ _ (by omega) hk
      · skip
        refine RQ.seg 2 (pc' := 163) (L' := [some (.ref 80), some (.int (iI (n : Int))), some (.int (iI z)), some (.int (iI nb))]) (st' := [.int (iI (n : Int)), .int (iI 1), .int (iI (mkn nb B P n)), .ref 80]) (g1 := (HW (usc sc 8046 (mkn nb B P n)) ar tx oc rl ou tl, q)) rfl ?_
        refine RQ.ishl1 (b := (n : Int)) rfl rfl rfl (by omega) ?_
        refine RQ.seg 1 (pc' := 168) (L' := [some (.ref 80), some (.int (iI (n : Int))), some (.int (iI z)), some (.int (iI nb))]) (st' := [.int (iI (2 ^ ((n : Int)).toNat)), .int (iI (mkn nb B P n)), .ref 80]) (g1 := (HW (usc sc 8046 (mkn nb B P n)) ar tx oc rl ou tl, q)) rfl ?_
        refine RQ.ior (a := (mkn nb B P n)) (b := ((n : Int))) rfl rfl rfl (by omega) (by omega) ?_
        refine RQ.seg 3 (pc' := 7) (L' := [some (.ref 80), some (.int ((iI (n : Int)) + (iI 1))), some (.int (iI z)), some (.int (iI nb))]) (st' := []) (g1 := (HW (usc sc 8046 (orz (mkn nb B P n) ((n : Int)))) ar tx oc rl ou tl, q)) rfl ?_
        refine RQ.to (L' := [some (.ref 80), some (.int (iI ((n : Int) + 1))), some (.int (iI z)), some (.int (iI nb))]) (st' := []) (by simp only [iI_add, iI_sub, iI_mul, iI_neg]) rfl ?_
        have e : orz (mkn nb B P n) ((n : Int)) = mkn nb B P (n + 1) := by rw [mkn]; first | rw [if_pos (by omega)] | rw [if_neg (by omega)]
        rw [e]
        exact m_lf_b hF hM hPu hmy m (n + 1) _ _ (by omega) hk
theorem m_layFeet {K : PK} {d : Nat} {sc : Nat → Int} {ar : Nat → Int → Int} {tx oc : Nat} {rl : Nat → Option Nat} {ou : Nat → Int64} {tl : List PO} {q : Nat × Nat} {nw nb : Int} {W B : Int → Int → Int} (hF : FrOK nw nb W B) (hM : FrM (sc 8024) (sc 8025) (ar 85) (ar 86) nw nb W B) {P : Int → Int} (hPu : ∀ b, 0 ≤ b → b < nb → ar 96 b = P b) (hmy : PtOK nw nb W B P) : CallR K (d + 1) 195 [.ref 80] (HW sc ar tx oc rl ou tl, q) none (HW (usc sc 8046 (mkb nb B P)) ar tx oc rl ou tl, q) := by
  apply CQ.x
  have hn := hF.1
  have hm1 := hM.1
  have hm2 := hM.2.1
  refine CQ.of (own := 11) (n := 4) (ini := false) (rt := none) (cd := cd195) (by decide +kernel) rfl (by decide +kernel) rfl (Nat.le_of_ble_eq_true rfl) ?_
  refine RQ.seg 5 (pc' := 7) (L' := [some (.ref 80), some (.int (iI 0)), none, none]) (st' := []) (g1 := (HW (usc sc 8046 0) ar tx oc rl ou tl, q)) rfl ?_
  exact m_lf_b hF hM hPu hmy nb.toNat 0 _ _ (by omega) ⟨rfl, rfl⟩
theorem m_has_t {K : PK} {d : Nat} {g : PG} {x k : Int} (hx : 0 ≤ x ∧ x < 1000) (hk : 0 ≤ k ∧ k < 10) (hP : x / 2 ^ k.toNat % 2 = 1) : CallR K (d + 1) 151 [.int (iI x), .int (iI k)] g (some (.int (iI 1))) g := by
  apply CQ.x
  refine CQ.of (own := 11) (n := 2) (ini := false) (rt := (some .boolean)) (cd := cd151) (by decide +kernel) rfl (by decide +kernel) rfl (Nat.le_of_ble_eq_true rfl) ?_
  refine RQ.seg 2 (pc' := 2) (L' := [some (.int (iI x)), some (.int (iI k))]) (st' := [.int (iI k), .int (iI x)]) (g1 := g) rfl ?_
  refine RQ.ishr (a := x) (b := k) (p := 2 ^ k.toNat) rfl rfl rfl (by omega) (by omega) rfl ?_
  refine RQ.seg 1 (pc' := 4) (L' := [some (.int (iI x)), some (.int (iI k))]) (st' := [.int (iI 1), .int (iI (x / (2 ^ k.toNat)))]) (g1 := g) rfl ?_
  refine RQ.iandm 1 (a := (x / (2 ^ k.toNat))) (m := 1) (p := 2) rfl rfl rfl (by decide) (by decide) (by decide) ?_
  refine RQ.seg 1 (pc' := 6) (L' := [some (.int (iI x)), some (.int (iI k))]) (st' := [.int (iI 1), .int (iI ((x / (2 ^ k.toNat)) % 2))]) (g1 := g) rfl ?_
  refine RQ.if2 (a := ((x / (2 ^ k.toNat)) % 2)) (b := 1) rfl rfl rfl rfl (by omega) (by omega) (fun (h1 : (x / (2 ^ k.toNat)) % 2 ≠ 1) => ?_) (fun (h1 : ¬ (x / (2 ^ k.toNat)) % 2 ≠ 1) => ?_)
  · skip
    refine RQ.seg 1 (pc' := 14) (L' := [some (.int (iI x)), some (.int (iI k))]) (st' := [.int (iI 0)]) (g1 := g) rfl ?_
    refine RQ.ret rfl rfl ?_
    exfalso; omega
  · skip
    refine RQ.seg 2 (pc' := 14) (L' := [some (.int (iI x)), some (.int (iI k))]) (st' := [.int (iI 1)]) (g1 := g) rfl ?_
    refine RQ.ret rfl rfl ?_
    exact ⟨rfl, rfl⟩
theorem m_has_f {K : PK} {d : Nat} {g : PG} {x k : Int} (hx : 0 ≤ x ∧ x < 1000) (hk : 0 ≤ k ∧ k < 10) (hP : ¬ (x / 2 ^ k.toNat % 2 = 1)) : CallR K (d + 1) 151 [.int (iI x), .int (iI k)] g (some (.int (iI 0))) g := by
  apply CQ.x
  refine CQ.of (own := 11) (n := 2) (ini := false) (rt := (some .boolean)) (cd := cd151) (by decide +kernel) rfl (by decide +kernel) rfl (Nat.le_of_ble_eq_true rfl) ?_
  refine RQ.seg 2 (pc' := 2) (L' := [some (.int (iI x)), some (.int (iI k))]) (st' := [.int (iI k), .int (iI x)]) (g1 := g) rfl ?_
  refine RQ.ishr (a := x) (b := k) (p := 2 ^ k.toNat) rfl rfl rfl (by omega) (by omega) rfl ?_
  refine RQ.seg 1 (pc' := 4) (L' := [some (.int (iI x)), some (.int (iI k))]) (st' := [.int (iI 1), .int (iI (x / (2 ^ k.toNat)))]) (g1 := g) rfl ?_
  refine RQ.iandm 1 (a := (x / (2 ^ k.toNat))) (m := 1) (p := 2) rfl rfl rfl (by decide) (by decide) (by decide) ?_
  refine RQ.seg 1 (pc' := 6) (L' := [some (.int (iI x)), some (.int (iI k))]) (st' := [.int (iI 1), .int (iI ((x / (2 ^ k.toNat)) % 2))]) (g1 := g) rfl ?_
  refine RQ.if2 (a := ((x / (2 ^ k.toNat)) % 2)) (b := 1) rfl rfl rfl rfl (by omega) (by omega) (fun (h1 : (x / (2 ^ k.toNat)) % 2 ≠ 1) => ?_) (fun (h1 : ¬ (x / (2 ^ k.toNat)) % 2 ≠ 1) => ?_)
  · skip
    refine RQ.seg 1 (pc' := 14) (L' := [some (.int (iI x)), some (.int (iI k))]) (st' := [.int (iI 0)]) (g1 := g) rfl ?_
    refine RQ.ret rfl rfl ?_
    exact ⟨rfl, rfl⟩
  · skip
    refine RQ.seg 2 (pc' := 14) (L' := [some (.int (iI x)), some (.int (iI k))]) (st' := [.int (iI 1)]) (g1 := g) rfl ?_
    refine RQ.ret rfl rfl ?_
    exfalso; omega
theorem m_hasB_t {K : PK} {d : Nat} {g : PG} {nb b : Int} {B : Int → Int → Int} {P : Int → Int} (hb : 0 ≤ b ∧ b < nb) (hn : nb ≤ 3) (h : bkv nb B P b = 1) : CallR K (d + 1) 151 [.int (iI (mkb nb B P)), .int (iI b)] g (some (.int (iI 1))) g := m_has_t (by have := mkb_r nb B P hn; omega) (by omega) (by rw [mkb_has hn hb, h])
theorem m_hasB_f {K : PK} {d : Nat} {g : PG} {nb b : Int} {B : Int → Int → Int} {P : Int → Int} (hb : 0 ≤ b ∧ b < nb) (hn : nb ≤ 3) (h : bkv nb B P b = 0) : CallR K (d + 1) 151 [.int (iI (mkb nb B P)), .int (iI b)] g (some (.int (iI 0))) g := m_has_f (by have := mkb_r nb B P hn; omega) (by omega) (by rw [mkb_has hn hb, h]; decide)
theorem m_cross {K : PK} {d : Nat} {sc : Nat → Int} {ar : Nat → Int → Int} {tx oc : Nat} {rl : Nat → Option Nat} {ou : Nat → Int64} {tl : List PO} {q : Nat × Nat} {a b : Int} {nw nb : Int} {W B : Int → Int → Int} (hF : FrOK nw nb W B) (hM : FrM (sc 8024) (sc 8025) (ar 85) (ar 86) nw nb W B) {P : Int → Int} (hPu : ∀ b, 0 ≤ b → b < nb → ar 96 b = P b) (hmy : PtOK nw nb W B P) (ha : 0 ≤ a ∧ a < nb) (hb : 0 ≤ b ∧ b < nb) (hbk : sc 8046 = mkb nb B P) : CallR K (d + 2) 196 [.ref 80, .int (iI a), .int (iI b)] (HW sc ar tx oc rl ou tl, q) (some (.int (iI (crz nb W B P a b)))) (HW sc ar tx oc rl ou tl, q) := by
  apply CQ.x
  have hn := hF.1
  have hm1 := hM.1
  have hm2 := hM.2.1
  refine CQ.of (own := 11) (n := 3) (ini := false) (rt := (some .boolean)) (cd := cd196) (by decide +kernel) rfl (by decide +kernel) rfl (Nat.le_of_ble_eq_true rfl) ?_
  refine RQ.seg 2 (pc' := 2) (L' := [some (.ref 80), some (.int (iI a)), some (.int (iI b))]) (st' := [.int (iI b), .int (iI a)]) (g1 := (HW sc ar tx oc rl ou tl, q)) rfl ?_
  refine RQ.if2 (a := a) (b := b) rfl rfl rfl rfl (by omega) (by omega) (fun (h1 : a = b) => ?_) (fun (h1 : ¬ a = b) => ?_)
  · skip
    refine RQ.seg 1 (pc' := 28) (L' := [some (.ref 80), some (.int (iI a)), some (.int (iI b))]) (st' := [.int (iI 0)]) (g1 := (HW sc ar tx oc rl ou tl, q)) rfl ?_
    refine RQ.ret rfl rfl ?_
    refine ⟨?_, rfl⟩
    rw [crz]
    first | rw [if_pos (by omega)] | rw [if_neg (by omega)]
  · skip
    refine RQ.seg 2 (pc' := 9) (L' := [some (.ref 80), some (.int (iI a)), some (.int (iI b))]) (st' := [.int (iI (sc 8046))]) (g1 := (HW sc ar tx oc rl ou tl, q)) rfl ?_
    refine RQ.to (L' := [some (.ref 80), some (.int (iI a)), some (.int (iI b))]) (st' := [.int (iI (mkb nb B P))]) rfl (by rw [show sc 8046 = mkb nb B P from hbk]) ?_
    refine RQ.seg 1 (pc' := 10) (L' := [some (.ref 80), some (.int (iI a)), some (.int (iI b))]) (st' := [.int (iI a), .int (iI (mkb nb B P))]) (g1 := (HW sc ar tx oc rl ou tl, q)) rfl ?_
    rcases (show bkv nb B P a = 1 ∨ bkv nb B P a = 0 by have := bkv_r nb B P a; omega) with h2 | h2
    · skip
      refine RQ.call rfl rfl (m_hasB_t (by omega) (by omega) h2) ?_
      refine RQ.seg 2 (pc' := 28) (L' := [some (.ref 80), some (.int (iI a)), some (.int (iI b))]) (st' := [.int (iI 0)]) (g1 := (HW sc ar tx oc rl ou tl, q)) rfl ?_
      refine RQ.ret rfl rfl ?_
      refine ⟨?_, rfl⟩
      rw [crz]
      first | rw [if_pos (by omega)] | rw [if_neg (by omega)]
    · skip
      refine RQ.call rfl rfl (m_hasB_f (by omega) (by omega) h2) ?_
      refine RQ.seg 3 (pc' := 20) (L' := [some (.ref 80), some (.int (iI a)), some (.int (iI b))]) (st' := [.int (iI (sc 8046))]) (g1 := (HW sc ar tx oc rl ou tl, q)) rfl ?_
      refine RQ.to (L' := [some (.ref 80), some (.int (iI a)), some (.int (iI b))]) (st' := [.int (iI (mkb nb B P))]) rfl (by rw [show sc 8046 = mkb nb B P from hbk]) ?_
      refine RQ.seg 1 (pc' := 21) (L' := [some (.ref 80), some (.int (iI a)), some (.int (iI b))]) (st' := [.int (iI b), .int (iI (mkb nb B P))]) (g1 := (HW sc ar tx oc rl ou tl, q)) rfl ?_
      rcases (show bkv nb B P b = 1 ∨ bkv nb B P b = 0 by have := bkv_r nb B P b; omega) with h3 | h3
      · skip
        refine RQ.call rfl rfl (m_hasB_t (by omega) (by omega) h3) ?_
        refine RQ.seg 2 (pc' := 28) (L' := [some (.ref 80), some (.int (iI a)), some (.int (iI b))]) (st' := [.int (iI 0)]) (g1 := (HW sc ar tx oc rl ou tl, q)) rfl ?_
        refine RQ.ret rfl rfl ?_
        refine ⟨?_, rfl⟩
        rw [crz]
        first | rw [if_pos (by omega)] | rw [if_neg (by omega)]
      · skip
        refine RQ.call rfl rfl (m_hasB_f (by omega) (by omega) h3) ?_
        refine RQ.seg 1 (pc' := 29) (L' := [some (.ref 80), some (.int (iI a)), some (.int (iI b))]) (st' := []) (g1 := (HW sc ar tx oc rl ou tl, q)) rfl ?_
        have hpa := hmy.w ha.1 ha.2 (by omega)
        have hpb := hmy.w hb.1 hb.2 (by omega)
        have hwa := hF.2.1 (P a % 10) (by omega) (by omega)
        have hwb := hF.2.1 (P b % 10) (by omega) (by omega)
        have hnl := mulb (a := P a / 10 - P b / 10) (b := W (P a % 10) 0 - W (P b % 10) 0) (n := 10) (by omega) (by omega)
        refine RQ.seg 3 (pc' := 34) (L' := [some (.ref 80), some (.int (iI a)), some (.int (iI b))]) (st' := [.int (iI a), .ref 96]) (g1 := (HW sc ar tx oc rl ou tl, q)) rfl ?_
        have hf1 := hmy.r (b := a) (by omega) (by omega)
        refine RQ.ialdv (z := a) (v := (P a)) rfl rfl rfl (by omega) (by decide) (hPu a (by omega) (by omega)) ?_
        refine RQ.seg 1 (pc' := 37) (L' := [some (.ref 80), some (.int (iI a)), some (.int (iI b))]) (st' := [.int (iI 10), .int (iI (P a))]) (g1 := (HW sc ar tx oc rl ou tl, q)) rfl ?_
        refine RQ.idiv (a := (P a)) (b := 10) rfl rfl rfl (by omega) (by omega) ?_
        refine RQ.seg 3 (pc' := 43) (L' := [some (.ref 80), some (.int (iI a)), some (.int (iI b))]) (st' := [.int (iI b), .ref 96, .int (iI ((P a) / 10))]) (g1 := (HW sc ar tx oc rl ou tl, q)) rfl ?_
        have hf2 := hmy.r (b := b) (by omega) (by omega)
        refine RQ.ialdv (z := b) (v := (P b)) rfl rfl rfl (by omega) (by decide) (hPu b (by omega) (by omega)) ?_
        refine RQ.seg 1 (pc' := 46) (L' := [some (.ref 80), some (.int (iI a)), some (.int (iI b))]) (st' := [.int (iI 10), .int (iI (P b)), .int (iI ((P a) / 10))]) (g1 := (HW sc ar tx oc rl ou tl, q)) rfl ?_
        refine RQ.idiv (a := (P b)) (b := 10) rfl rfl rfl (by omega) (by omega) ?_
        refine RQ.seg 7 (pc' := 58) (L' := [some (.ref 80), some (.int (iI a)), some (.int (iI b))]) (st' := [.int (iI a), .ref 96, .int (iI 4), .ref 85, .int ((iI ((P a) / 10)) - (iI ((P b) / 10)))]) (g1 := (HW sc ar tx oc rl ou tl, q)) rfl ?_
        refine RQ.ialdv (z := a) (v := (P a)) rfl rfl rfl (by omega) (by decide) (hPu a (by omega) (by omega)) ?_
        refine RQ.seg 1 (pc' := 61) (L' := [some (.ref 80), some (.int (iI a)), some (.int (iI b))]) (st' := [.int (iI 10), .int (iI (P a)), .int (iI 4), .ref 85, .int ((iI ((P a) / 10)) - (iI ((P b) / 10)))]) (g1 := (HW sc ar tx oc rl ou tl, q)) rfl ?_
        refine RQ.irem (a := (P a)) (b := 10) rfl rfl rfl (by omega) (by omega) ?_
        refine RQ.seg 1 (pc' := 63) (L' := [some (.ref 80), some (.int (iI a)), some (.int (iI b))]) (st' := [.int ((iI 4) * (iI ((P a) % 10))), .ref 85, .int ((iI ((P a) / 10)) - (iI ((P b) / 10)))]) (g1 := (HW sc ar tx oc rl ou tl, q)) rfl ?_
        have hf3 := hF.2.1 ((P a) % 10) (by omega) (by omega)
        refine RQ.ialdv (z := (4 * ((P a) % 10))) (v := (W ((P a) % 10) 0)) rfl (by simp only [iI_add, iI_sub, iI_mul, iI_neg]) rfl (by omega) (by decide) (frm_w0 hM (by omega) (by omega)) ?_
        refine RQ.seg 6 (pc' := 74) (L' := [some (.ref 80), some (.int (iI a)), some (.int (iI b))]) (st' := [.int (iI b), .ref 96, .int (iI 4), .ref 85, .int (iI (W ((P a) % 10) 0)), .int ((iI ((P a) / 10)) - (iI ((P b) / 10)))]) (g1 := (HW sc ar tx oc rl ou tl, q)) rfl ?_
        refine RQ.ialdv (z := b) (v := (P b)) rfl rfl rfl (by omega) (by decide) (hPu b (by omega) (by omega)) ?_
        refine RQ.seg 1 (pc' := 77) (L' := [some (.ref 80), some (.int (iI a)), some (.int (iI b))]) (st' := [.int (iI 10), .int (iI (P b)), .int (iI 4), .ref 85, .int (iI (W ((P a) % 10) 0)), .int ((iI ((P a) / 10)) - (iI ((P b) / 10)))]) (g1 := (HW sc ar tx oc rl ou tl, q)) rfl ?_
        refine RQ.irem (a := (P b)) (b := 10) rfl rfl rfl (by omega) (by omega) ?_
        refine RQ.seg 1 (pc' := 79) (L' := [some (.ref 80), some (.int (iI a)), some (.int (iI b))]) (st' := [.int ((iI 4) * (iI ((P b) % 10))), .ref 85, .int (iI (W ((P a) % 10) 0)), .int ((iI ((P a) / 10)) - (iI ((P b) / 10)))]) (g1 := (HW sc ar tx oc rl ou tl, q)) rfl ?_
        have hf4 := hF.2.1 ((P b) % 10) (by omega) (by omega)
        refine RQ.ialdv (z := (4 * ((P b) % 10))) (v := (W ((P b) % 10) 0)) rfl (by simp only [iI_add, iI_sub, iI_mul, iI_neg]) rfl (by omega) (by decide) (frm_w0 hM (by omega) (by omega)) ?_
        refine RQ.seg 2 (pc' := 82) (L' := [some (.ref 80), some (.int (iI a)), some (.int (iI b))]) (st' := [.int (((iI ((P a) / 10)) - (iI ((P b) / 10))) * ((iI (W ((P a) % 10) 0)) - (iI (W ((P b) % 10) 0))))]) (g1 := (HW sc ar tx oc rl ou tl, q)) rfl ?_
        refine RQ.if1 (a := (((P a) / 10 - ((P b) / 10)) * (W ((P a) % 10) 0 - (W ((P b) % 10) 0)))) rfl rfl (by simp only [iI_add, iI_sub, iI_mul, iI_neg]) (by omega) (fun (h4 : 0 ≤ ((P a) / 10 - ((P b) / 10)) * (W ((P a) % 10) 0 - (W ((P b) % 10) 0))) => ?_) (fun (h4 : ¬ 0 ≤ ((P a) / 10 - ((P b) / 10)) * (W ((P a) % 10) 0 - (W ((P b) % 10) 0))) => ?_)
        · skip
          refine RQ.seg 1 (pc' := 90) (L' := [some (.ref 80), some (.int (iI a)), some (.int (iI b))]) (st' := [.int (iI 0)]) (g1 := (HW sc ar tx oc rl ou tl, q)) rfl ?_
          refine RQ.ret rfl rfl ?_
          refine ⟨?_, rfl⟩
          rw [crz]
          first | rw [if_pos (by omega)] | rw [if_neg (by omega)]
        · skip
          refine RQ.seg 2 (pc' := 90) (L' := [some (.ref 80), some (.int (iI a)), some (.int (iI b))]) (st' := [.int (iI 1)]) (g1 := (HW sc ar tx oc rl ou tl, q)) rfl ?_
          refine RQ.ret rfl rfl ?_
          refine ⟨?_, rfl⟩
          rw [crz]
          first | rw [if_pos (by omega)] | rw [if_neg (by omega)]
