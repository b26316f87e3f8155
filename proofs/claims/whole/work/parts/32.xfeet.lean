/-! the class settles feet, by wip/tools -/
theorem x_hip78_l {K : PK} {d : Nat} {sc : Nat → Int} {ar : Nat → Int → Int} {tx oc : Nat} {rl : Nat → Option Nat} {ou : Nat → Int64} {tl : List PO} {q : Nat × Nat} {Q : Option Value → PG → Prop} {b : Int} {nw nb : Int} {W B : Int → Int → Int} (hF : FrOK nw nb W B) (hX : FrX (sc 303) (sc 304) (ar 5) (ar 6) (ar 7) (ar 8) (ar 10) (ar 11) (ar 12) nw nb W B) {P : Int → Int} (hPu : ∀ b, 0 ≤ b → b < nb → ar 78 b = P b) (hmy : PtOK nw nb W B P) (hb : 0 ≤ b ∧ b < nb) (h99 : P b ≠ 99) : ∀ (m n : Nat) (e1 e2 : Option Value) (hn : (n : Int) + m = nb) (hz : bkn B P b n = 0) (h1 : bkv nb B P b = 0 → Q (some (.int (iI 1))) (HW sc ar tx oc rl ou tl, q)) (h0 : bkv nb B P b = 1 → Q (some (.int (iI 0))) (HW sc ar tx oc rl ou tl, q)), RQ K (d + 0) 4 false (some .boolean) cd34 2 [some (.ref 51), some (.int (iI b)), some (.ref 78), some (.int (iI (n : Int))), e1, e2] [] (HW sc ar tx oc rl ou tl, q) Q
  | 0, n, e1, e2, hn, hz, h1, h0 => by
    have hn := hF.1
    have hm1 := hX.1
    have hm2 := hX.2.1
    have hpb : 0 ≤ P b ∧ P b / 10 < 6 := by rcases hmy b hb.1 hb.2 with z | z; exact absurd z h99; exact ⟨z.1, z.2.1⟩
    have hnz : (n : Int) = b → B (n : Int) 0 = B b 0 := fun z => by rw [z]
    refine RQ.seg 4 (pc' := 10) (L' := [some (.ref 51), some (.int (iI b)), some (.ref 78), some (.int (iI (n : Int))), e1, e2]) (st' := [.int (iI (sc 304)), .int (iI (n : Int))]) (g1 := (HW sc ar tx oc rl ou tl, q)) rfl ?_
    refine RQ.if2 (a := (n : Int)) (b := (sc 304)) rfl rfl rfl rfl (by omega) (by omega) (fun _ => ?_) (fun (q : ¬ sc 304 ≤ (n : Int)) => absurd (show sc 304 ≤ (n : Int) from by omega) q)
    refine RQ.seg 1 (pc' := 89) (L' := [some (.ref 51), some (.int (iI b)), some (.ref 78), some (.int (iI (n : Int))), e1, e2]) (st' := [.int (iI 1)]) (g1 := (HW sc ar tx oc rl ou tl, q)) rfl ?_
    refine RQ.ret rfl rfl ?_
    obtain rfl : nb = (n : Int) := by omega
    exact h1 hz
  | m + 1, n, e1, e2, hn, hz, h1, h0 => by
    have hn := hF.1
    have hm1 := hX.1
    have hm2 := hX.2.1
    have hpb : 0 ≤ P b ∧ P b / 10 < 6 := by rcases hmy b hb.1 hb.2 with z | z; exact absurd z h99; exact ⟨z.1, z.2.1⟩
    have hnz : (n : Int) = b → B (n : Int) 0 = B b 0 := fun z => by rw [z]
    refine RQ.seg 4 (pc' := 10) (L' := [some (.ref 51), some (.int (iI b)), some (.ref 78), some (.int (iI (n : Int))), e1, e2]) (st' := [.int (iI (sc 304)), .int (iI (n : Int))]) (g1 := (HW sc ar tx oc rl ou tl, q)) rfl ?_
    refine RQ.if2 (a := (n : Int)) (b := (sc 304)) rfl rfl rfl rfl (by omega) (by omega) (fun (q : sc 304 ≤ (n : Int)) => absurd q (show ¬ sc 304 ≤ (n : Int) from by omega)) (fun _ => ?_)
    refine RQ.seg 4 (pc' := 21) (L' := [some (.ref 51), some (.int (iI b)), some (.ref 78), some (.int (iI (n : Int))), e1, e2]) (st' := [.int (iI b), .ref 9]) (g1 := (HW sc ar tx oc rl ou tl, q)) rfl ?_
    refine RQ.aald (z := b) rfl rfl rfl (by omega) (by decide) ?_
    refine RQ.seg 1 (pc' := 23) (L' := [some (.ref 51), some (.int (iI b)), some (.ref 78), some (.int (iI (n : Int))), e1, e2]) (st' := [.int (iI 0), .ref (10 + b.toNat)]) (g1 := (HW sc ar tx oc rl ou tl, q)) rfl ?_
    have hf1 := hF.2.2 b (by omega) (by omega)
    refine RQ.ialdv (z := 0) (v := (B b 0)) rfl rfl (HW_r9 (by omega)) (by omega) (by decide) (frx_b (j := 0) hX (by omega) (by omega) (by omega) (by omega) hF.1.2.2.2) ?_
    refine RQ.seg 4 (pc' := 32) (L' := [some (.ref 51), some (.int (iI b)), some (.ref 78), some (.int (iI (n : Int))), e1, e2]) (st' := [.int (iI (n : Int)), .ref 9, .int (iI (B b 0))]) (g1 := (HW sc ar tx oc rl ou tl, q)) rfl ?_
    refine RQ.aald (z := (n : Int)) rfl rfl rfl (by omega) (by decide) ?_
    refine RQ.seg 1 (pc' := 34) (L' := [some (.ref 51), some (.int (iI b)), some (.ref 78), some (.int (iI (n : Int))), e1, e2]) (st' := [.int (iI 0), .ref (10 + ((n : Int)).toNat), .int (iI (B b 0))]) (g1 := (HW sc ar tx oc rl ou tl, q)) rfl ?_
    have hf2 := hF.2.2 (n : Int) (by omega) (by omega)
    refine RQ.ialdv (z := 0) (v := (B (n : Int) 0)) rfl rfl (HW_r9 (by omega)) (by omega) (by decide) (frx_b (j := 0) hX (by omega) (by omega) (by omega) (by omega) hF.1.2.2.2) ?_
    refine RQ.seg 3 (pc' := 40) (L' := [some (.ref 51), some (.int (iI b)), some (.ref 78), some (.int (iI (n : Int))), some (.int ((iI (B b 0)) - (iI (B (n : Int) 0)))), e2]) (st' := [.int ((iI (B b 0)) - (iI (B (n : Int) 0)))]) (g1 := (HW sc ar tx oc rl ou tl, q)) rfl ?_
    refine RQ.if1 (a := (B b 0 - (B (n : Int) 0))) rfl rfl (by simp only [iI_add, iI_sub, iI_mul, iI_neg]) (by omega) (fun (h2 : 0 < B b 0 - (B (n : Int) 0)) => ?_) (fun (h2 : ¬ 0 < B b 0 - (B (n : Int) 0)) => ?_)
    · skip
      refine RQ.seg 7 (pc' := 67) (L' := [some (.ref 51), some (.int (iI b)), some (.ref 78), some (.int (iI (n : Int))), some (.int ((iI (B b 0)) - (iI (B (n : Int) 0)))), some (.int (iI 1))]) (st' := [.int (iI (n : Int)), .ref 78]) (g1 := (HW sc ar tx oc rl ou tl, q)) rfl ?_
      have hf3 := hmy.r (b := (n : Int)) (by omega) (by omega)
      refine RQ.ialdv (z := (n : Int)) (v := (P (n : Int))) rfl rfl rfl (by omega) (by decide) (hPu (n : Int) (by omega) (by omega)) ?_
      refine RQ.seg 1 (pc' := 70) (L' := [some (.ref 51), some (.int (iI b)), some (.ref 78), some (.int (iI (n : Int))), some (.int ((iI (B b 0)) - (iI (B (n : Int) 0)))), some (.int (iI 1))]) (st' := [.int (iI 10), .int (iI (P (n : Int)))]) (g1 := (HW sc ar tx oc rl ou tl, q)) rfl ?_
      refine RQ.idiv (a := (P (n : Int))) (b := 10) rfl rfl rfl (by omega) (by omega) ?_
      refine RQ.seg 2 (pc' := 73) (L' := [some (.ref 51), some (.int (iI b)), some (.ref 78), some (.int (iI (n : Int))), some (.int ((iI (B b 0)) - (iI (B (n : Int) 0)))), some (.int (iI 1))]) (st' := [.int (iI b), .ref 78, .int (iI ((P (n : Int)) / 10))]) (g1 := (HW sc ar tx oc rl ou tl, q)) rfl ?_
      have hf4 := hmy.r (b := b) (by omega) (by omega)
      refine RQ.ialdv (z := b) (v := (P b)) rfl rfl rfl (by omega) (by decide) (hPu b (by omega) (by omega)) ?_
      refine RQ.seg 1 (pc' := 76) (L' := [some (.ref 51), some (.int (iI b)), some (.ref 78), some (.int (iI (n : Int))), some (.int ((iI (B b 0)) - (iI (B (n : Int) 0)))), some (.int (iI 1))]) (st' := [.int (iI 10), .int (iI (P b)), .int (iI ((P (n : Int)) / 10))]) (g1 := (HW sc ar tx oc rl ou tl, q)) rfl ?_
      refine RQ.idiv (a := (P b)) (b := 10) rfl rfl rfl (by omega) (by omega) ?_
      refine RQ.if2 (a := ((P (n : Int)) / 10)) (b := ((P b) / 10)) rfl rfl rfl rfl (by omega) (by omega) (fun (h3 : (P (n : Int)) / 10 ≠ (P b) / 10) => ?_) (fun (h3 : ¬ (P (n : Int)) / 10 ≠ (P b) / 10) => ?_)
      · skip
        refine RQ.seg 2 (pc' := 2) (L' := [some (.ref 51), some (.int (iI b)), some (.ref 78), some (.int ((iI (n : Int)) + (iI 1))), some (.int ((iI (B b 0)) - (iI (B (n : Int) 0)))), some (.int (iI 1))]) (st' := []) (g1 := (HW sc ar tx oc rl ou tl, q)) rfl ?_
        refine RQ.to (L' := [some (.ref 51), some (.int (iI b)), some (.ref 78), some (.int (iI ((n : Int) + 1))), some (.int (iI (B b 0 - (B (n : Int) 0)))), some (.int (iI 1))]) (st' := []) (by simp only [iI_add, iI_sub, iI_mul, iI_neg]) rfl ?_
        exact x_hip78_l hF hX hPu hmy hb h99 m (n + 1) _ _ (by omega) (by rw [bkn, if_neg (by omega)]) h1 h0
      · skip
        refine RQ.seg 1 (pc' := 81) (L' := [some (.ref 51), some (.int (iI b)), some (.ref 78), some (.int (iI (n : Int))), some (.int ((iI (B b 0)) - (iI (B (n : Int) 0)))), some (.int (iI 1))]) (st' := [.int (iI 0)]) (g1 := (HW sc ar tx oc rl ou tl, q)) rfl ?_
        refine RQ.to (L' := [some (.ref 51), some (.int (iI b)), some (.ref 78), some (.int (iI (n : Int))), some (.int (iI (B b 0 - (B (n : Int) 0)))), some (.int (iI 1))]) (st' := [.int (iI 0)]) (by simp only [iI_add, iI_sub, iI_mul, iI_neg]) rfl ?_
        refine RQ.ret rfl rfl ?_
        exact h0 (bkn_ge (n := n + 1) (by rw [bkn, if_pos (by omega)]) (by omega))
    · skip
      refine RQ.seg 1 (pc' := 45) (L' := [some (.ref 51), some (.int (iI b)), some (.ref 78), some (.int (iI (n : Int))), some (.int ((iI (B b 0)) - (iI (B (n : Int) 0)))), e2]) (st' := [.int ((iI (B b 0)) - (iI (B (n : Int) 0)))]) (g1 := (HW sc ar tx oc rl ou tl, q)) rfl ?_
      refine RQ.if1 (a := (B b 0 - (B (n : Int) 0))) rfl rfl (by simp only [iI_add, iI_sub, iI_mul, iI_neg]) (by omega) (fun (h4 : B b 0 - (B (n : Int) 0) ≠ 0) => ?_) (fun (h4 : ¬ B b 0 - (B (n : Int) 0) ≠ 0) => ?_)
      · skip
        refine RQ.seg 6 (pc' := 2) (L' := [some (.ref 51), some (.int (iI b)), some (.ref 78), some (.int ((iI (n : Int)) + (iI 1))), some (.int ((iI (B b 0)) - (iI (B (n : Int) 0)))), some (.int (iI 0))]) (st' := []) (g1 := (HW sc ar tx oc rl ou tl, q)) rfl ?_
        refine RQ.to (L' := [some (.ref 51), some (.int (iI b)), some (.ref 78), some (.int (iI ((n : Int) + 1))), some (.int (iI (B b 0 - (B (n : Int) 0)))), some (.int (iI 0))]) (st' := []) (by simp only [iI_add, iI_sub, iI_mul, iI_neg]) rfl ?_
        exact x_hip78_l hF hX hPu hmy hb h99 m (n + 1) _ _ (by omega) (by rw [bkn, if_neg (by omega)]) h1 h0
      · skip
        refine RQ.seg 2 (pc' := 50) (L' := [some (.ref 51), some (.int (iI b)), some (.ref 78), some (.int (iI (n : Int))), some (.int ((iI (B b 0)) - (iI (B (n : Int) 0)))), e2]) (st' := [.int (iI b), .int (iI (n : Int))]) (g1 := (HW sc ar tx oc rl ou tl, q)) rfl ?_
        refine RQ.if2 (a := (n : Int)) (b := b) rfl rfl rfl rfl (by omega) (by omega) (fun (h5 : b ≤ (n : Int)) => ?_) (fun (h5 : ¬ b ≤ (n : Int)) => ?_)
        · skip
          refine RQ.seg 6 (pc' := 2) (L' := [some (.ref 51), some (.int (iI b)), some (.ref 78), some (.int ((iI (n : Int)) + (iI 1))), some (.int ((iI (B b 0)) - (iI (B (n : Int) 0)))), some (.int (iI 0))]) (st' := []) (g1 := (HW sc ar tx oc rl ou tl, q)) rfl ?_
          refine RQ.to (L' := [some (.ref 51), some (.int (iI b)), some (.ref 78), some (.int (iI ((n : Int) + 1))), some (.int (iI (B b 0 - (B (n : Int) 0)))), some (.int (iI 0))]) (st' := []) (by simp only [iI_add, iI_sub, iI_mul, iI_neg]) rfl ?_
          exact x_hip78_l hF hX hPu hmy hb h99 m (n + 1) _ _ (by omega) (by rw [bkn, if_neg (by omega)]) h1 h0
        · skip
          refine RQ.seg 7 (pc' := 67) (L' := [some (.ref 51), some (.int (iI b)), some (.ref 78), some (.int (iI (n : Int))), some (.int ((iI (B b 0)) - (iI (B (n : Int) 0)))), some (.int (iI 1))]) (st' := [.int (iI (n : Int)), .ref 78]) (g1 := (HW sc ar tx oc rl ou tl, q)) rfl ?_
          have hf5 := hmy.r (b := (n : Int)) (by omega) (by omega)
          refine RQ.ialdv (z := (n : Int)) (v := (P (n : Int))) rfl rfl rfl (by omega) (by decide) (hPu (n : Int) (by omega) (by omega)) ?_
          refine RQ.seg 1 (pc' := 70) (L' := [some (.ref 51), some (.int (iI b)), some (.ref 78), some (.int (iI (n : Int))), some (.int ((iI (B b 0)) - (iI (B (n : Int) 0)))), some (.int (iI 1))]) (st' := [.int (iI 10), .int (iI (P (n : Int)))]) (g1 := (HW sc ar tx oc rl ou tl, q)) rfl ?_
          refine RQ.idiv (a := (P (n : Int))) (b := 10) rfl rfl rfl (by omega) (by omega) ?_
          refine RQ.seg 2 (pc' := 73) (L' := [some (.ref 51), some (.int (iI b)), some (.ref 78), some (.int (iI (n : Int))), some (.int ((iI (B b 0)) - (iI (B (n : Int) 0)))), some (.int (iI 1))]) (st' := [.int (iI b), .ref 78, .int (iI ((P (n : Int)) / 10))]) (g1 := (HW sc ar tx oc rl ou tl, q)) rfl ?_
          have hf6 := hmy.r (b := b) (by omega) (by omega)
          refine RQ.ialdv (z := b) (v := (P b)) rfl rfl rfl (by omega) (by decide) (hPu b (by omega) (by omega)) ?_
          refine RQ.seg 1 (pc' := 76) (L' := [some (.ref 51), some (.int (iI b)), some (.ref 78), some (.int (iI (n : Int))), some (.int ((iI (B b 0)) - (iI (B (n : Int) 0)))), some (.int (iI 1))]) (st' := [.int (iI 10), .int (iI (P b)), .int (iI ((P (n : Int)) / 10))]) (g1 := (HW sc ar tx oc rl ou tl, q)) rfl ?_
          refine RQ.idiv (a := (P b)) (b := 10) rfl rfl rfl (by omega) (by omega) ?_
          refine RQ.if2 (a := ((P (n : Int)) / 10)) (b := ((P b) / 10)) rfl rfl rfl rfl (by omega) (by omega) (fun (h6 : (P (n : Int)) / 10 ≠ (P b) / 10) => ?_) (fun (h6 : ¬ (P (n : Int)) / 10 ≠ (P b) / 10) => ?_)
          · skip
            refine RQ.seg 2 (pc' := 2) (L' := [some (.ref 51), some (.int (iI b)), some (.ref 78), some (.int ((iI (n : Int)) + (iI 1))), some (.int ((iI (B b 0)) - (iI (B (n : Int) 0)))), some (.int (iI 1))]) (st' := []) (g1 := (HW sc ar tx oc rl ou tl, q)) rfl ?_
            refine RQ.to (L' := [some (.ref 51), some (.int (iI b)), some (.ref 78), some (.int (iI ((n : Int) + 1))), some (.int (iI (B b 0 - (B (n : Int) 0)))), some (.int (iI 1))]) (st' := []) (by simp only [iI_add, iI_sub, iI_mul, iI_neg]) rfl ?_
            exact x_hip78_l hF hX hPu hmy hb h99 m (n + 1) _ _ (by omega) (by rw [bkn, if_neg (by omega)]) h1 h0
          · skip
            refine RQ.seg 1 (pc' := 81) (L' := [some (.ref 51), some (.int (iI b)), some (.ref 78), some (.int (iI (n : Int))), some (.int ((iI (B b 0)) - (iI (B (n : Int) 0)))), some (.int (iI 1))]) (st' := [.int (iI 0)]) (g1 := (HW sc ar tx oc rl ou tl, q)) rfl ?_
            refine RQ.to (L' := [some (.ref 51), some (.int (iI b)), some (.ref 78), some (.int (iI (n : Int))), some (.int (iI (B b 0 - (B (n : Int) 0)))), some (.int (iI 1))]) (st' := [.int (iI 0)]) (by simp only [iI_add, iI_sub, iI_mul, iI_neg]) rfl ?_
            refine RQ.ret rfl rfl ?_
            exact h0 (bkn_ge (n := n + 1) (by rw [bkn, if_pos (by omega)]) (by omega))
theorem x_hip78_t {K : PK} {d : Nat} {sc : Nat → Int} {ar : Nat → Int → Int} {tx oc : Nat} {rl : Nat → Option Nat} {ou : Nat → Int64} {tl : List PO} {q : Nat × Nat} {b : Int} {nw nb : Int} {W B : Int → Int → Int} (hF : FrOK nw nb W B) (hX : FrX (sc 303) (sc 304) (ar 5) (ar 6) (ar 7) (ar 8) (ar 10) (ar 11) (ar 12) nw nb W B) {P : Int → Int} (hPu : ∀ b, 0 ≤ b → b < nb → ar 78 b = P b) (hmy : PtOK nw nb W B P) (hb : 0 ≤ b ∧ b < nb) (h99 : P b ≠ 99) (hP : bkv nb B P b = 0) : CallR K (d + 1) 34 [.ref 51, .int (iI b), .ref 78] (HW sc ar tx oc rl ou tl, q) (some (.int (iI 1))) (HW sc ar tx oc rl ou tl, q) := by
  apply CQ.x
  have hn := hF.1
  have hm1 := hX.1
  have hm2 := hX.2.1
  refine CQ.of (own := 4) (n := 6) (ini := false) (rt := (some .boolean)) (cd := cd34) (by decide +kernel) rfl (by decide +kernel) rfl (Nat.le_of_ble_eq_true rfl) ?_
  refine RQ.seg 2 (pc' := 2) (L' := [some (.ref 51), some (.int (iI b)), some (.ref 78), some (.int (iI 0)), none, none]) (st' := []) (g1 := (HW sc ar tx oc rl ou tl, q)) rfl ?_
  exact x_hip78_l hF hX hPu hmy hb h99 nb.toNat 0 _ _ (by omega) (if_neg h99) (fun z => ⟨rfl, rfl⟩) (fun z => absurd z (by omega))
theorem x_hip78_f {K : PK} {d : Nat} {sc : Nat → Int} {ar : Nat → Int → Int} {tx oc : Nat} {rl : Nat → Option Nat} {ou : Nat → Int64} {tl : List PO} {q : Nat × Nat} {b : Int} {nw nb : Int} {W B : Int → Int → Int} (hF : FrOK nw nb W B) (hX : FrX (sc 303) (sc 304) (ar 5) (ar 6) (ar 7) (ar 8) (ar 10) (ar 11) (ar 12) nw nb W B) {P : Int → Int} (hPu : ∀ b, 0 ≤ b → b < nb → ar 78 b = P b) (hmy : PtOK nw nb W B P) (hb : 0 ≤ b ∧ b < nb) (h99 : P b ≠ 99) (hP : bkv nb B P b = 1) : CallR K (d + 1) 34 [.ref 51, .int (iI b), .ref 78] (HW sc ar tx oc rl ou tl, q) (some (.int (iI 0))) (HW sc ar tx oc rl ou tl, q) := by
  apply CQ.x
  have hn := hF.1
  have hm1 := hX.1
  have hm2 := hX.2.1
  refine CQ.of (own := 4) (n := 6) (ini := false) (rt := (some .boolean)) (cd := cd34) (by decide +kernel) rfl (by decide +kernel) rfl (Nat.le_of_ble_eq_true rfl) ?_
  refine RQ.seg 2 (pc' := 2) (L' := [some (.ref 51), some (.int (iI b)), some (.ref 78), some (.int (iI 0)), none, none]) (st' := []) (g1 := (HW sc ar tx oc rl ou tl, q)) rfl ?_
  exact x_hip78_l hF hX hPu hmy hb h99 nb.toNat 0 _ _ (by omega) (if_neg h99) (fun z => absurd z (by omega)) (fun z => ⟨rfl, rfl⟩)
theorem x_sf78_l {K : PK} {d : Nat} {sc : Nat → Int} {ar : Nat → Int → Int} {tx oc : Nat} {rl : Nat → Option Nat} {ou : Nat → Int64} {tl : List PO} {q : Nat × Nat} {nw nb : Int} {W B : Int → Int → Int} (hF : FrOK nw nb W B) (hX : FrX (sc 303) (sc 304) (ar 5) (ar 6) (ar 7) (ar 8) (ar 10) (ar 11) (ar 12) nw nb W B) {P : Int → Int} (hPu : ∀ b, 0 ≤ b → b < nb → ar 78 b = P b) (hmy : PtOK nw nb W B P) : ∀ (m n : Nat) (pl wi : Int → Int) (e1 : Option Value) (hn : (n : Int) + m = 3) (hi : (∀ j, 0 ≤ j → j < (n : Int) → pl j = xpl nb B P j ∧ wi j = xwi nb B P j)), RQ K (d + 1) 4 false none cd33 2 [some (.ref 51), some (.ref 78), some (.int (iI (n : Int))), e1] [] (HW sc (usc (usc ar 52 pl) 53 wi) tx oc rl ou tl, q) (fun r g' => r = none ∧ ∃ pl wi, g' = (HW sc (usc (usc ar 52 pl) 53 wi) tx oc rl ou tl, q) ∧ (∀ j, 0 ≤ j → j < 3 → pl j = xpl nb B P j ∧ wi j = xwi nb B P j))
  | 0, n, pl, wi, e1, hn, hi => by
    have hn := hF.1
    have hm1 := hX.1
    have hm2 := hX.2.1
    refine RQ.seg 2 (pc' := 4) (L' := [some (.ref 51), some (.ref 78), some (.int (iI (n : Int))), e1]) (st' := [.int (iI 3), .int (iI (n : Int))]) (g1 := (HW sc (usc (usc ar 52 pl) 53 wi) tx oc rl ou tl, q)) rfl ?_
    refine RQ.if2 (a := (n : Int)) (b := 3) rfl rfl rfl rfl (by omega) (by omega) (fun _ => ?_) (fun (q : ¬ 3 ≤ (n : Int)) => absurd (show 3 ≤ (n : Int) from by omega) q)
    refine RQ.ret rfl rfl ?_
    obtain rfl : n = 3 := by omega
    exact ⟨rfl, pl, wi, rfl, hi⟩
  | m + 1, n, pl, wi, e1, hn, hi => by
    have hn := hF.1
    have hm1 := hX.1
    have hm2 := hX.2.1
    refine RQ.seg 2 (pc' := 4) (L' := [some (.ref 51), some (.ref 78), some (.int (iI (n : Int))), e1]) (st' := [.int (iI 3), .int (iI (n : Int))]) (g1 := (HW sc (usc (usc ar 52 pl) 53 wi) tx oc rl ou tl, q)) rfl ?_
    refine RQ.if2 (a := (n : Int)) (b := 3) rfl rfl rfl rfl (by omega) (by omega) (fun (q : 3 ≤ (n : Int)) => absurd q (show ¬ 3 ≤ (n : Int) from by omega)) (fun _ => ?_)
    refine RQ.seg 4 (pc' := 15) (L' := [some (.ref 51), some (.ref 78), some (.int (iI (n : Int))), e1]) (st' := [.int (iI (sc 304)), .int (iI (n : Int))]) (g1 := (HW sc (usc (usc ar 52 pl) 53 wi) tx oc rl ou tl, q)) rfl ?_
    refine RQ.if2 (a := (n : Int)) (b := (sc 304)) rfl rfl rfl rfl (by omega) (by omega) (fun (h2 : sc 304 ≤ (n : Int)) => ?_) (fun (h2 : ¬ sc 304 ≤ (n : Int)) => ?_)
    · skip
      refine RQ.seg 8 (pc' := 60) (L' := [some (.ref 51), some (.ref 78), some (.int (iI (n : Int))), some (.int (iI 0))]) (st' := [.int (iI (-1)), .int (iI (n : Int)), .ref 52]) (g1 := (HW sc (usc (usc ar 52 pl) 53 wi) tx oc rl ou tl, q)) rfl ?_
      refine RQ.iast (z := (n : Int)) (v := (-1)) (g1 := (HW sc (usc (usc ar 52 (usz pl (n : Int) (-1))) 53 wi) tx oc rl ou tl, q)) rfl rfl rfl rfl (by omega) (by decide) (HWa_52 (by funext j; unfold usc; cases hb : Nat.beq j 52 <;> first | rfl | (rw [Nat.eq_of_beq_eq_true hb]; rfl))) ?_
      refine RQ.seg 6 (pc' := 80) (L' := [some (.ref 51), some (.ref 78), some (.int (iI (n : Int))), some (.int (iI 0))]) (st' := [.int (iI (-1)), .int (iI (n : Int)), .ref 53]) (g1 := (HW sc (usc (usc ar 52 (usz pl (n : Int) (-1))) 53 wi) tx oc rl ou tl, q)) rfl ?_
      refine RQ.iast (z := (n : Int)) (v := (-1)) (g1 := (HW sc (usc (usc ar 52 (usz pl (n : Int) (-1))) 53 (usz wi (n : Int) (-1))) tx oc rl ou tl, q)) rfl rfl rfl rfl (by omega) (by decide) (HWa_53 (by funext j; unfold usc; cases hb : Nat.beq j 53 <;> first | rfl | (rw [Nat.eq_of_beq_eq_true hb]; rfl))) ?_
      refine RQ.seg 2 (pc' := 2) (L' := [some (.ref 51), some (.ref 78), some (.int ((iI (n : Int)) + (iI 1))), some (.int (iI 0))]) (st' := []) (g1 := (HW sc (usc (usc ar 52 (usz pl (n : Int) (-1))) 53 (usz wi (n : Int) (-1))) tx oc rl ou tl, q)) rfl ?_
      refine RQ.to (L' := [some (.ref 51), some (.ref 78), some (.int (iI ((n : Int) + 1))), some (.int (iI 0))]) (st' := []) (by simp only [iI_add, iI_sub, iI_mul, iI_neg]) rfl ?_
      refine x_sf78_l hF hX hPu hmy m (n + 1) _ _ _ (by omega) (fun j j0 j1 => ?_)
      by_cases e : j = (n : Int)
      · subst e; have e9 := xwi_f (nb := nb) (B := B) (P := P) (j := (n : Int)) (fun z => by first | omega | exact absurd (by assumption) (bkv_99 z.2)); rw [usz_s, usz_s, e9.1, e9.2]; exact ⟨rfl, rfl⟩
      · rw [usz_n e, usz_n e]; exact hi j j0 (by omega)
    · skip
      refine RQ.seg 2 (pc' := 20) (L' := [some (.ref 51), some (.ref 78), some (.int (iI (n : Int))), e1]) (st' := [.int (iI (n : Int)), .ref 78]) (g1 := (HW sc (usc (usc ar 52 pl) 53 wi) tx oc rl ou tl, q)) rfl ?_
      have hf1 := hmy.r (b := (n : Int)) (by omega) (by omega)
      refine RQ.ialdv (z := (n : Int)) (v := (P (n : Int))) rfl rfl rfl (by omega) (by decide) (hPu (n : Int) (by omega) (by omega)) ?_
      refine RQ.seg 1 (pc' := 23) (L' := [some (.ref 51), some (.ref 78), some (.int (iI (n : Int))), e1]) (st' := [.int (iI 99), .int (iI (P (n : Int)))]) (g1 := (HW sc (usc (usc ar 52 pl) 53 wi) tx oc rl ou tl, q)) rfl ?_
      refine RQ.if2 (a := (P (n : Int))) (b := 99) rfl rfl rfl rfl (by omega) (by omega) (fun (h3 : P (n : Int) = 99) => ?_) (fun (h3 : ¬ P (n : Int) = 99) => ?_)
      · skip
        refine RQ.seg 8 (pc' := 60) (L' := [some (.ref 51), some (.ref 78), some (.int (iI (n : Int))), some (.int (iI 0))]) (st' := [.int (iI (-1)), .int (iI (n : Int)), .ref 52]) (g1 := (HW sc (usc (usc ar 52 pl) 53 wi) tx oc rl ou tl, q)) rfl ?_
        refine RQ.iast (z := (n : Int)) (v := (-1)) (g1 := (HW sc (usc (usc ar 52 (usz pl (n : Int) (-1))) 53 wi) tx oc rl ou tl, q)) rfl rfl rfl rfl (by omega) (by decide) (HWa_52 (by funext j; unfold usc; cases hb : Nat.beq j 52 <;> first | rfl | (rw [Nat.eq_of_beq_eq_true hb]; rfl))) ?_
        refine RQ.seg 6 (pc' := 80) (L' := [some (.ref 51), some (.ref 78), some (.int (iI (n : Int))), some (.int (iI 0))]) (st' := [.int (iI (-1)), .int (iI (n : Int)), .ref 53]) (g1 := (HW sc (usc (usc ar 52 (usz pl (n : Int) (-1))) 53 wi) tx oc rl ou tl, q)) rfl ?_
        refine RQ.iast (z := (n : Int)) (v := (-1)) (g1 := (HW sc (usc (usc ar 52 (usz pl (n : Int) (-1))) 53 (usz wi (n : Int) (-1))) tx oc rl ou tl, q)) rfl rfl rfl rfl (by omega) (by decide) (HWa_53 (by funext j; unfold usc; cases hb : Nat.beq j 53 <;> first | rfl | (rw [Nat.eq_of_beq_eq_true hb]; rfl))) ?_
        refine RQ.seg 2 (pc' := 2) (L' := [some (.ref 51), some (.ref 78), some (.int ((iI (n : Int)) + (iI 1))), some (.int (iI 0))]) (st' := []) (g1 := (HW sc (usc (usc ar 52 (usz pl (n : Int) (-1))) 53 (usz wi (n : Int) (-1))) tx oc rl ou tl, q)) rfl ?_
        refine RQ.to (L' := [some (.ref 51), some (.ref 78), some (.int (iI ((n : Int) + 1))), some (.int (iI 0))]) (st' := []) (by simp only [iI_add, iI_sub, iI_mul, iI_neg]) rfl ?_
        refine x_sf78_l hF hX hPu hmy m (n + 1) _ _ _ (by omega) (fun j j0 j1 => ?_)
        by_cases e : j = (n : Int)
        · subst e; have e9 := xwi_f (nb := nb) (B := B) (P := P) (j := (n : Int)) (fun z => by first | omega | exact absurd (by assumption) (bkv_99 z.2)); rw [usz_s, usz_s, e9.1, e9.2]; exact ⟨rfl, rfl⟩
        · rw [usz_n e, usz_n e]; exact hi j j0 (by omega)
      · skip
        refine RQ.seg 3 (pc' := 29) (L' := [some (.ref 51), some (.ref 78), some (.int (iI (n : Int))), e1]) (st' := [.ref 78, .int (iI (n : Int)), .ref 51]) (g1 := (HW sc (usc (usc ar 52 pl) 53 wi) tx oc rl ou tl, q)) rfl ?_
        rcases (show bkv nb B P (n : Int) = 0 ∨ bkv nb B P (n : Int) = 1 by have := bkv_r nb B P (n : Int); omega) with h4 | h4
        · skip
          refine RQ.call rfl rfl (x_hip78_t (sc := sc) (ar := usc (usc ar 52 pl) 53 wi) hF hX hPu hmy (b := (n : Int)) (by omega) (by omega) h4) ?_
          refine RQ.seg 11 (pc' := 52) (L' := [some (.ref 51), some (.ref 78), some (.int (iI (n : Int))), some (.int (iI 1))]) (st' := [.int (iI (n : Int)), .ref 78, .int (iI (n : Int)), .ref 52]) (g1 := (HW sc (usc (usc ar 52 pl) 53 wi) tx oc rl ou tl, q)) rfl ?_
          refine RQ.ialdv (z := (n : Int)) (v := (P (n : Int))) rfl rfl rfl (by omega) (by decide) (hPu (n : Int) (by omega) (by omega)) ?_
          refine RQ.seg 1 (pc' := 55) (L' := [some (.ref 51), some (.ref 78), some (.int (iI (n : Int))), some (.int (iI 1))]) (st' := [.int (iI 10), .int (iI (P (n : Int))), .int (iI (n : Int)), .ref 52]) (g1 := (HW sc (usc (usc ar 52 pl) 53 wi) tx oc rl ou tl, q)) rfl ?_
          refine RQ.idiv (a := (P (n : Int))) (b := 10) rfl rfl rfl (by omega) (by omega) ?_
          refine RQ.seg 1 (pc' := 60) (L' := [some (.ref 51), some (.ref 78), some (.int (iI (n : Int))), some (.int (iI 1))]) (st' := [.int (iI ((P (n : Int)) / 10)), .int (iI (n : Int)), .ref 52]) (g1 := (HW sc (usc (usc ar 52 pl) 53 wi) tx oc rl ou tl, q)) rfl ?_
          refine RQ.iast (z := (n : Int)) (v := ((P (n : Int)) / 10)) (g1 := (HW sc (usc (usc ar 52 (usz pl (n : Int) ((P (n : Int)) / 10))) 53 wi) tx oc rl ou tl, q)) rfl rfl rfl rfl (by omega) (by decide) (HWa_52 (by funext j; unfold usc; cases hb : Nat.beq j 52 <;> first | rfl | (rw [Nat.eq_of_beq_eq_true hb]; rfl))) ?_
          refine RQ.seg 7 (pc' := 72) (L' := [some (.ref 51), some (.ref 78), some (.int (iI (n : Int))), some (.int (iI 1))]) (st' := [.int (iI (n : Int)), .ref 78, .int (iI (n : Int)), .ref 53]) (g1 := (HW sc (usc (usc ar 52 (usz pl (n : Int) ((P (n : Int)) / 10))) 53 wi) tx oc rl ou tl, q)) rfl ?_
          refine RQ.ialdv (z := (n : Int)) (v := (P (n : Int))) rfl rfl rfl (by omega) (by decide) (hPu (n : Int) (by omega) (by omega)) ?_
          refine RQ.seg 1 (pc' := 75) (L' := [some (.ref 51), some (.ref 78), some (.int (iI (n : Int))), some (.int (iI 1))]) (st' := [.int (iI 10), .int (iI (P (n : Int))), .int (iI (n : Int)), .ref 53]) (g1 := (HW sc (usc (usc ar 52 (usz pl (n : Int) ((P (n : Int)) / 10))) 53 wi) tx oc rl ou tl, q)) rfl ?_
          refine RQ.irem (a := (P (n : Int))) (b := 10) rfl rfl rfl (by omega) (by omega) ?_
          refine RQ.seg 1 (pc' := 80) (L' := [some (.ref 51), some (.ref 78), some (.int (iI (n : Int))), some (.int (iI 1))]) (st' := [.int (iI ((P (n : Int)) % 10)), .int (iI (n : Int)), .ref 53]) (g1 := (HW sc (usc (usc ar 52 (usz pl (n : Int) ((P (n : Int)) / 10))) 53 wi) tx oc rl ou tl, q)) rfl ?_
          refine RQ.iast (z := (n : Int)) (v := ((P (n : Int)) % 10)) (g1 := (HW sc (usc (usc ar 52 (usz pl (n : Int) ((P (n : Int)) / 10))) 53 (usz wi (n : Int) ((P (n : Int)) % 10))) tx oc rl ou tl, q)) rfl rfl rfl rfl (by omega) (by decide) (HWa_53 (by funext j; unfold usc; cases hb : Nat.beq j 53 <;> first | rfl | (rw [Nat.eq_of_beq_eq_true hb]; rfl))) ?_
          refine RQ.seg 2 (pc' := 2) (L' := [some (.ref 51), some (.ref 78), some (.int ((iI (n : Int)) + (iI 1))), some (.int (iI 1))]) (st' := []) (g1 := (HW sc (usc (usc ar 52 (usz pl (n : Int) ((P (n : Int)) / 10))) 53 (usz wi (n : Int) ((P (n : Int)) % 10))) tx oc rl ou tl, q)) rfl ?_
          refine RQ.to (L' := [some (.ref 51), some (.ref 78), some (.int (iI ((n : Int) + 1))), some (.int (iI 1))]) (st' := []) (by simp only [iI_add, iI_sub, iI_mul, iI_neg]) rfl ?_
          refine x_sf78_l hF hX hPu hmy m (n + 1) _ _ _ (by omega) (fun j j0 j1 => ?_)
          by_cases e : j = (n : Int)
          · subst e; have e9 := xwi_t (nb := nb) (B := B) (P := P) (j := (n : Int)) (by omega) (by omega); rw [usz_s, usz_s, e9.1, e9.2]; exact ⟨rfl, rfl⟩
          · rw [usz_n e, usz_n e]; exact hi j j0 (by omega)
        · skip
          refine RQ.call rfl rfl (x_hip78_f (sc := sc) (ar := usc (usc ar 52 pl) 53 wi) hF hX hPu hmy (b := (n : Int)) (by omega) (by omega) h4) ?_
          refine RQ.seg 9 (pc' := 60) (L' := [some (.ref 51), some (.ref 78), some (.int (iI (n : Int))), some (.int (iI 0))]) (st' := [.int (iI (-1)), .int (iI (n : Int)), .ref 52]) (g1 := (HW sc (usc (usc ar 52 pl) 53 wi) tx oc rl ou tl, q)) rfl ?_
          refine RQ.iast (z := (n : Int)) (v := (-1)) (g1 := (HW sc (usc (usc ar 52 (usz pl (n : Int) (-1))) 53 wi) tx oc rl ou tl, q)) rfl rfl rfl rfl (by omega) (by decide) (HWa_52 (by funext j; unfold usc; cases hb : Nat.beq j 52 <;> first | rfl | (rw [Nat.eq_of_beq_eq_true hb]; rfl))) ?_
          refine RQ.seg 6 (pc' := 80) (L' := [some (.ref 51), some (.ref 78), some (.int (iI (n : Int))), some (.int (iI 0))]) (st' := [.int (iI (-1)), .int (iI (n : Int)), .ref 53]) (g1 := (HW sc (usc (usc ar 52 (usz pl (n : Int) (-1))) 53 wi) tx oc rl ou tl, q)) rfl ?_
          refine RQ.iast (z := (n : Int)) (v := (-1)) (g1 := (HW sc (usc (usc ar 52 (usz pl (n : Int) (-1))) 53 (usz wi (n : Int) (-1))) tx oc rl ou tl, q)) rfl rfl rfl rfl (by omega) (by decide) (HWa_53 (by funext j; unfold usc; cases hb : Nat.beq j 53 <;> first | rfl | (rw [Nat.eq_of_beq_eq_true hb]; rfl))) ?_
          refine RQ.seg 2 (pc' := 2) (L' := [some (.ref 51), some (.ref 78), some (.int ((iI (n : Int)) + (iI 1))), some (.int (iI 0))]) (st' := []) (g1 := (HW sc (usc (usc ar 52 (usz pl (n : Int) (-1))) 53 (usz wi (n : Int) (-1))) tx oc rl ou tl, q)) rfl ?_
          refine RQ.to (L' := [some (.ref 51), some (.ref 78), some (.int (iI ((n : Int) + 1))), some (.int (iI 0))]) (st' := []) (by simp only [iI_add, iI_sub, iI_mul, iI_neg]) rfl ?_
          refine x_sf78_l hF hX hPu hmy m (n + 1) _ _ _ (by omega) (fun j j0 j1 => ?_)
          by_cases e : j = (n : Int)
          · subst e; have e9 := xwi_f (nb := nb) (B := B) (P := P) (j := (n : Int)) (fun z => by first | omega | exact absurd (by assumption) (bkv_99 z.2)); rw [usz_s, usz_s, e9.1, e9.2]; exact ⟨rfl, rfl⟩
          · rw [usz_n e, usz_n e]; exact hi j j0 (by omega)
theorem x_sf78 {K : PK} {d : Nat} {sc : Nat → Int} {ar : Nat → Int → Int} {tx oc : Nat} {rl : Nat → Option Nat} {ou : Nat → Int64} {tl : List PO} {q : Nat × Nat} {nw nb : Int} {W B : Int → Int → Int} (hF : FrOK nw nb W B) (hX : FrX (sc 303) (sc 304) (ar 5) (ar 6) (ar 7) (ar 8) (ar 10) (ar 11) (ar 12) nw nb W B) {P : Int → Int} (hPu : ∀ b, 0 ≤ b → b < nb → ar 78 b = P b) (hmy : PtOK nw nb W B P) : CQ K (d + 2) 33 [.ref 51, .ref 78] (HW sc ar tx oc rl ou tl, q) (fun r g' => r = none ∧ ∃ pl wi, g' = (HW sc (usc (usc ar 52 pl) 53 wi) tx oc rl ou tl, q) ∧ (∀ j, 0 ≤ j → j < 3 → pl j = xpl nb B P j ∧ wi j = xwi nb B P j)) := by
  have hn := hF.1
  have hm1 := hX.1
  have hm2 := hX.2.1
  refine CQ.of (own := 4) (n := 4) (ini := false) (rt := none) (cd := cd33) (by decide +kernel) rfl (by decide +kernel) rfl (Nat.le_of_ble_eq_true rfl) ?_
  refine RQ.seg 2 (pc' := 2) (L' := [some (.ref 51), some (.ref 78), some (.int (iI 0)), none]) (st' := []) (g1 := (HW sc ar tx oc rl ou tl, q)) rfl ?_
  exact x_sf78_l hF hX hPu hmy 3 0 (ar 52) (ar 53) _ (by omega) (fun j h0 h1 => absurd h1 (by omega))
theorem x_hip70_l {K : PK} {d : Nat} {sc : Nat → Int} {ar : Nat → Int → Int} {tx oc : Nat} {rl : Nat → Option Nat} {ou : Nat → Int64} {tl : List PO} {q : Nat × Nat} {Q : Option Value → PG → Prop} {b : Int} {nw nb : Int} {W B : Int → Int → Int} (hF : FrOK nw nb W B) (hX : FrX (sc 303) (sc 304) (ar 5) (ar 6) (ar 7) (ar 8) (ar 10) (ar 11) (ar 12) nw nb W B) {P : Int → Int} (hPu : ∀ b, 0 ≤ b → b < nb → ar 70 b = P b) (hmy : PtOK nw nb W B P) (hb : 0 ≤ b ∧ b < nb) (h99 : P b ≠ 99) : ∀ (m n : Nat) (e1 e2 : Option Value) (hn : (n : Int) + m = nb) (hz : bkn B P b n = 0) (h1 : bkv nb B P b = 0 → Q (some (.int (iI 1))) (HW sc ar tx oc rl ou tl, q)) (h0 : bkv nb B P b = 1 → Q (some (.int (iI 0))) (HW sc ar tx oc rl ou tl, q)), RQ K (d + 0) 4 false (some .boolean) cd34 2 [some (.ref 51), some (.int (iI b)), some (.ref 70), some (.int (iI (n : Int))), e1, e2] [] (HW sc ar tx oc rl ou tl, q) Q
  | 0, n, e1, e2, hn, hz, h1, h0 => by
    have hn := hF.1
    have hm1 := hX.1
    have hm2 := hX.2.1
    have hpb : 0 ≤ P b ∧ P b / 10 < 6 := by rcases hmy b hb.1 hb.2 with z | z; exact absurd z h99; exact ⟨z.1, z.2.1⟩
    have hnz : (n : Int) = b → B (n : Int) 0 = B b 0 := fun z => by rw [z]
    refine RQ.seg 4 (pc' := 10) (L' := [some (.ref 51), some (.int (iI b)), some (.ref 70), some (.int (iI (n : Int))), e1, e2]) (st' := [.int (iI (sc 304)), .int (iI (n : Int))]) (g1 := (HW sc ar tx oc rl ou tl, q)) rfl ?_
    refine RQ.if2 (a := (n : Int)) (b := (sc 304)) rfl rfl rfl rfl (by omega) (by omega) (fun _ => ?_) (fun (q : ¬ sc 304 ≤ (n : Int)) => absurd (show sc 304 ≤ (n : Int) from by omega) q)
    refine RQ.seg 1 (pc' := 89) (L' := [some (.ref 51), some (.int (iI b)), some (.ref 70), some (.int (iI (n : Int))), e1, e2]) (st' := [.int (iI 1)]) (g1 := (HW sc ar tx oc rl ou tl, q)) rfl ?_
    refine RQ.ret rfl rfl ?_
    obtain rfl : nb = (n : Int) := by omega
    exact h1 hz
  | m + 1, n, e1, e2, hn, hz, h1, h0 => by
    have hn := hF.1
    have hm1 := hX.1
    have hm2 := hX.2.1
    have hpb : 0 ≤ P b ∧ P b / 10 < 6 := by rcases hmy b hb.1 hb.2 with z | z; exact absurd z h99; exact ⟨z.1, z.2.1⟩
    have hnz : (n : Int) = b → B (n : Int) 0 = B b 0 := fun z => by rw [z]
    refine RQ.seg 4 (pc' := 10) (L' := [some (.ref 51), some (.int (iI b)), some (.ref 70), some (.int (iI (n : Int))), e1, e2]) (st' := [.int (iI (sc 304)), .int (iI (n : Int))]) (g1 := (HW sc ar tx oc rl ou tl, q)) rfl ?_
    refine RQ.if2 (a := (n : Int)) (b := (sc 304)) rfl rfl rfl rfl (by omega) (by omega) (fun (q : sc 304 ≤ (n : Int)) => absurd q (show ¬ sc 304 ≤ (n : Int) from by omega)) (fun _ => ?_)
    refine RQ.seg 4 (pc' := 21) (L' := [some (.ref 51), some (.int (iI b)), some (.ref 70), some (.int (iI (n : Int))), e1, e2]) (st' := [.int (iI b), .ref 9]) (g1 := (HW sc ar tx oc rl ou tl, q)) rfl ?_
    refine RQ.aald (z := b) rfl rfl rfl (by omega) (by decide) ?_
    refine RQ.seg 1 (pc' := 23) (L' := [some (.ref 51), some (.int (iI b)), some (.ref 70), some (.int (iI (n : Int))), e1, e2]) (st' := [.int (iI 0), .ref (10 + b.toNat)]) (g1 := (HW sc ar tx oc rl ou tl, q)) rfl ?_
    have hf1 := hF.2.2 b (by omega) (by omega)
    refine RQ.ialdv (z := 0) (v := (B b 0)) rfl rfl (HW_r9 (by omega)) (by omega) (by decide) (frx_b (j := 0) hX (by omega) (by omega) (by omega) (by omega) hF.1.2.2.2) ?_
    refine RQ.seg 4 (pc' := 32) (L' := [some (.ref 51), some (.int (iI b)), some (.ref 70), some (.int (iI (n : Int))), e1, e2]) (st' := [.int (iI (n : Int)), .ref 9, .int (iI (B b 0))]) (g1 := (HW sc ar tx oc rl ou tl, q)) rfl ?_
    refine RQ.aald (z := (n : Int)) rfl rfl rfl (by omega) (by decide) ?_
    refine RQ.seg 1 (pc' := 34) (L' := [some (.ref 51), some (.int (iI b)), some (.ref 70), some (.int (iI (n : Int))), e1, e2]) (st' := [.int (iI 0), .ref (10 + ((n : Int)).toNat), .int (iI (B b 0))]) (g1 := (HW sc ar tx oc rl ou tl, q)) rfl ?_
    have hf2 := hF.2.2 (n : Int) (by omega) (by omega)
    refine RQ.ialdv (z := 0) (v := (B (n : Int) 0)) rfl rfl (HW_r9 (by omega)) (by omega) (by decide) (frx_b (j := 0) hX (by omega) (by omega) (by omega) (by omega) hF.1.2.2.2) ?_
    refine RQ.seg 3 (pc' := 40) (L' := [some (.ref 51), some (.int (iI b)), some (.ref 70), some (.int (iI (n : Int))), some (.int ((iI (B b 0)) - (iI (B (n : Int) 0)))), e2]) (st' := [.int ((iI (B b 0)) - (iI (B (n : Int) 0)))]) (g1 := (HW sc ar tx oc rl ou tl, q)) rfl ?_
    refine RQ.if1 (a := (B b 0 - (B (n : Int) 0))) rfl rfl (by simp only [iI_add, iI_sub, iI_mul, iI_neg]) (by omega) (fun (h2 : 0 < B b 0 - (B (n : Int) 0)) => ?_) (fun (h2 : ¬ 0 < B b 0 - (B (n : Int) 0)) => ?_)
    · skip
      refine RQ.seg 7 (pc' := 67) (L' := [some (.ref 51), some (.int (iI b)), some (.ref 70), some (.int (iI (n : Int))), some (.int ((iI (B b 0)) - (iI (B (n : Int) 0)))), some (.int (iI 1))]) (st' := [.int (iI (n : Int)), .ref 70]) (g1 := (HW sc ar tx oc rl ou tl, q)) rfl ?_
      have hf3 := hmy.r (b := (n : Int)) (by omega) (by omega)
      refine RQ.ialdv (z := (n : Int)) (v := (P (n : Int))) rfl rfl rfl (by omega) (by decide) (hPu (n : Int) (by omega) (by omega)) ?_
      refine RQ.seg 1 (pc' := 70) (L' := [some (.ref 51), some (.int (iI b)), some (.ref 70), some (.int (iI (n : Int))), some (.int ((iI (B b 0)) - (iI (B (n : Int) 0)))), some (.int (iI 1))]) (st' := [.int (iI 10), .int (iI (P (n : Int)))]) (g1 := (HW sc ar tx oc rl ou tl, q)) rfl ?_
      refine RQ.idiv (a := (P (n : Int))) (b := 10) rfl rfl rfl (by omega) (by omega) ?_
      refine RQ.seg 2 (pc' := 73) (L' := [some (.ref 51), some (.int (iI b)), some (.ref 70), some (.int (iI (n : Int))), some (.int ((iI (B b 0)) - (iI (B (n : Int) 0)))), some (.int (iI 1))]) (st' := [.int (iI b), .ref 70, .int (iI ((P (n : Int)) / 10))]) (g1 := (HW sc ar tx oc rl ou tl, q)) rfl ?_
      have hf4 := hmy.r (b := b) (by omega) (by omega)
      refine RQ.ialdv (z := b) (v := (P b)) rfl rfl rfl (by omega) (by decide) (hPu b (by omega) (by omega)) ?_
      refine RQ.seg 1 (pc' := 76) (L' := [some (.ref 51), some (.int (iI b)), some (.ref 70), some (.int (iI (n : Int))), some (.int ((iI (B b 0)) - (iI (B (n : Int) 0)))), some (.int (iI 1))]) (st' := [.int (iI 10), .int (iI (P b)), .int (iI ((P (n : Int)) / 10))]) (g1 := (HW sc ar tx oc rl ou tl, q)) rfl ?_
      refine RQ.idiv (a := (P b)) (b := 10) rfl rfl rfl (by omega) (by omega) ?_
      refine RQ.if2 (a := ((P (n : Int)) / 10)) (b := ((P b) / 10)) rfl rfl rfl rfl (by omega) (by omega) (fun (h3 : (P (n : Int)) / 10 ≠ (P b) / 10) => ?_) (fun (h3 : ¬ (P (n : Int)) / 10 ≠ (P b) / 10) => ?_)
      · skip
        refine RQ.seg 2 (pc' := 2) (L' := [some (.ref 51), some (.int (iI b)), some (.ref 70), some (.int ((iI (n : Int)) + (iI 1))), some (.int ((iI (B b 0)) - (iI (B (n : Int) 0)))), some (.int (iI 1))]) (st' := []) (g1 := (HW sc ar tx oc rl ou tl, q)) rfl ?_
        refine RQ.to (L' := [some (.ref 51), some (.int (iI b)), some (.ref 70), some (.int (iI ((n : Int) + 1))), some (.int (iI (B b 0 - (B (n : Int) 0)))), some (.int (iI 1))]) (st' := []) (by simp only [iI_add, iI_sub, iI_mul, iI_neg]) rfl ?_
        exact x_hip70_l hF hX hPu hmy hb h99 m (n + 1) _ _ (by omega) (by rw [bkn, if_neg (by omega)]) h1 h0
      · skip
        refine RQ.seg 1 (pc' := 81) (L' := [some (.ref 51), some (.int (iI b)), some (.ref 70), some (.int (iI (n : Int))), some (.int ((iI (B b 0)) - (iI (B (n : Int) 0)))), some (.int (iI 1))]) (st' := [.int (iI 0)]) (g1 := (HW sc ar tx oc rl ou tl, q)) rfl ?_
        refine RQ.to (L' := [some (.ref 51), some (.int (iI b)), some (.ref 70), some (.int (iI (n : Int))), some (.int (iI (B b 0 - (B (n : Int) 0)))), some (.int (iI 1))]) (st' := [.int (iI 0)]) (by simp only [iI_add, iI_sub, iI_mul, iI_neg]) rfl ?_
        refine RQ.ret rfl rfl ?_
        exact h0 (bkn_ge (n := n + 1) (by rw [bkn, if_pos (by omega)]) (by omega))
    · skip
      refine RQ.seg 1 (pc' := 45) (L' := [some (.ref 51), some (.int (iI b)), some (.ref 70), some (.int (iI (n : Int))), some (.int ((iI (B b 0)) - (iI (B (n : Int) 0)))), e2]) (st' := [.int ((iI (B b 0)) - (iI (B (n : Int) 0)))]) (g1 := (HW sc ar tx oc rl ou tl, q)) rfl ?_
      refine RQ.if1 (a := (B b 0 - (B (n : Int) 0))) rfl rfl (by simp only [iI_add, iI_sub, iI_mul, iI_neg]) (by omega) (fun (h4 : B b 0 - (B (n : Int) 0) ≠ 0) => ?_) (fun (h4 : ¬ B b 0 - (B (n : Int) 0) ≠ 0) => ?_)
      · skip
        refine RQ.seg 6 (pc' := 2) (L' := [some (.ref 51), some (.int (iI b)), some (.ref 70), some (.int ((iI (n : Int)) + (iI 1))), some (.int ((iI (B b 0)) - (iI (B (n : Int) 0)))), some (.int (iI 0))]) (st' := []) (g1 := (HW sc ar tx oc rl ou tl, q)) rfl ?_
        refine RQ.to (L' := [some (.ref 51), some (.int (iI b)), some (.ref 70), some (.int (iI ((n : Int) + 1))), some (.int (iI (B b 0 - (B (n : Int) 0)))), some (.int (iI 0))]) (st' := []) (by simp only [iI_add, iI_sub, iI_mul, iI_neg]) rfl ?_
        exact x_hip70_l hF hX hPu hmy hb h99 m (n + 1) _ _ (by omega) (by rw [bkn, if_neg (by omega)]) h1 h0
      · skip
        refine RQ.seg 2 (pc' := 50) (L' := [some (.ref 51), some (.int (iI b)), some (.ref 70), some (.int (iI (n : Int))), some (.int ((iI (B b 0)) - (iI (B (n : Int) 0)))), e2]) (st' := [.int (iI b), .int (iI (n : Int))]) (g1 := (HW sc ar tx oc rl ou tl, q)) rfl ?_
        refine RQ.if2 (a := (n : Int)) (b := b) rfl rfl rfl rfl (by omega) (by omega) (fun (h5 : b ≤ (n : Int)) => ?_) (fun (h5 : ¬ b ≤ (n : Int)) => ?_)
        · skip
          refine RQ.seg 6 (pc' := 2) (L' := [some (.ref 51), some (.int (iI b)), some (.ref 70), some (.int ((iI (n : Int)) + (iI 1))), some (.int ((iI (B b 0)) - (iI (B (n : Int) 0)))), some (.int (iI 0))]) (st' := []) (g1 := (HW sc ar tx oc rl ou tl, q)) rfl ?_
          refine RQ.to (L' := [some (.ref 51), some (.int (iI b)), some (.ref 70), some (.int (iI ((n : Int) + 1))), some (.int (iI (B b 0 - (B (n : Int) 0)))), some (.int (iI 0))]) (st' := []) (by simp only [iI_add, iI_sub, iI_mul, iI_neg]) rfl ?_
          exact x_hip70_l hF hX hPu hmy hb h99 m (n + 1) _ _ (by omega) (by rw [bkn, if_neg (by omega)]) h1 h0
        · skip
          refine RQ.seg 7 (pc' := 67) (L' := [some (.ref 51), some (.int (iI b)), some (.ref 70), some (.int (iI (n : Int))), some (.int ((iI (B b 0)) - (iI (B (n : Int) 0)))), some (.int (iI 1))]) (st' := [.int (iI (n : Int)), .ref 70]) (g1 := (HW sc ar tx oc rl ou tl, q)) rfl ?_
          have hf5 := hmy.r (b := (n : Int)) (by omega) (by omega)
          refine RQ.ialdv (z := (n : Int)) (v := (P (n : Int))) rfl rfl rfl (by omega) (by decide) (hPu (n : Int) (by omega) (by omega)) ?_
          refine RQ.seg 1 (pc' := 70) (L' := [some (.ref 51), some (.int (iI b)), some (.ref 70), some (.int (iI (n : Int))), some (.int ((iI (B b 0)) - (iI (B (n : Int) 0)))), some (.int (iI 1))]) (st' := [.int (iI 10), .int (iI (P (n : Int)))]) (g1 := (HW sc ar tx oc rl ou tl, q)) rfl ?_
          refine RQ.idiv (a := (P (n : Int))) (b := 10) rfl rfl rfl (by omega) (by omega) ?_
          refine RQ.seg 2 (pc' := 73) (L' := [some (.ref 51), some (.int (iI b)), some (.ref 70), some (.int (iI (n : Int))), some (.int ((iI (B b 0)) - (iI (B (n : Int) 0)))), some (.int (iI 1))]) (st' := [.int (iI b), .ref 70, .int (iI ((P (n : Int)) / 10))]) (g1 := (HW sc ar tx oc rl ou tl, q)) rfl ?_
          have hf6 := hmy.r (b := b) (by omega) (by omega)
          refine RQ.ialdv (z := b) (v := (P b)) rfl rfl rfl (by omega) (by decide) (hPu b (by omega) (by omega)) ?_
          refine RQ.seg 1 (pc' := 76) (L' := [some (.ref 51), some (.int (iI b)), some (.ref 70), some (.int (iI (n : Int))), some (.int ((iI (B b 0)) - (iI (B (n : Int) 0)))), some (.int (iI 1))]) (st' := [.int (iI 10), .int (iI (P b)), .int (iI ((P (n : Int)) / 10))]) (g1 := (HW sc ar tx oc rl ou tl, q)) rfl ?_
          refine RQ.idiv (a := (P b)) (b := 10) rfl rfl rfl (by omega) (by omega) ?_
          refine RQ.if2 (a := ((P (n : Int)) / 10)) (b := ((P b) / 10)) rfl rfl rfl rfl (by omega) (by omega) (fun (h6 : (P (n : Int)) / 10 ≠ (P b) / 10) => ?_) (fun (h6 : ¬ (P (n : Int)) / 10 ≠ (P b) / 10) => ?_)
          · skip
            refine RQ.seg 2 (pc' := 2) (L' := [some (.ref 51), some (.int (iI b)), some (.ref 70), some (.int ((iI (n : Int)) + (iI 1))), some (.int ((iI (B b 0)) - (iI (B (n : Int) 0)))), some (.int (iI 1))]) (st' := []) (g1 := (HW sc ar tx oc rl ou tl, q)) rfl ?_
            refine RQ.to (L' := [some (.ref 51), some (.int (iI b)), some (.ref 70), some (.int (iI ((n : Int) + 1))), some (.int (iI (B b 0 - (B (n : Int) 0)))), some (.int (iI 1))]) (st' := []) (by simp only [iI_add, iI_sub, iI_mul, iI_neg]) rfl ?_
            exact x_hip70_l hF hX hPu hmy hb h99 m (n + 1) _ _ (by omega) (by rw [bkn, if_neg (by omega)]) h1 h0
          · skip
            refine RQ.seg 1 (pc' := 81) (L' := [some (.ref 51), some (.int (iI b)), some (.ref 70), some (.int (iI (n : Int))), some (.int ((iI (B b 0)) - (iI (B (n : Int) 0)))), some (.int (iI 1))]) (st' := [.int (iI 0)]) (g1 := (HW sc ar tx oc rl ou tl, q)) rfl ?_
            refine RQ.to (L' := [some (.ref 51), some (.int (iI b)), some (.ref 70), some (.int (iI (n : Int))), some (.int (iI (B b 0 - (B (n : Int) 0)))), some (.int (iI 1))]) (st' := [.int (iI 0)]) (by simp only [iI_add, iI_sub, iI_mul, iI_neg]) rfl ?_
            refine RQ.ret rfl rfl ?_
            exact h0 (bkn_ge (n := n + 1) (by rw [bkn, if_pos (by omega)]) (by omega))
theorem x_hip70_t {K : PK} {d : Nat} {sc : Nat → Int} {ar : Nat → Int → Int} {tx oc : Nat} {rl : Nat → Option Nat} {ou : Nat → Int64} {tl : List PO} {q : Nat × Nat} {b : Int} {nw nb : Int} {W B : Int → Int → Int} (hF : FrOK nw nb W B) (hX : FrX (sc 303) (sc 304) (ar 5) (ar 6) (ar 7) (ar 8) (ar 10) (ar 11) (ar 12) nw nb W B) {P : Int → Int} (hPu : ∀ b, 0 ≤ b → b < nb → ar 70 b = P b) (hmy : PtOK nw nb W B P) (hb : 0 ≤ b ∧ b < nb) (h99 : P b ≠ 99) (hP : bkv nb B P b = 0) : CallR K (d + 1) 34 [.ref 51, .int (iI b), .ref 70] (HW sc ar tx oc rl ou tl, q) (some (.int (iI 1))) (HW sc ar tx oc rl ou tl, q) := by
  apply CQ.x
  have hn := hF.1
  have hm1 := hX.1
  have hm2 := hX.2.1
  refine CQ.of (own := 4) (n := 6) (ini := false) (rt := (some .boolean)) (cd := cd34) (by decide +kernel) rfl (by decide +kernel) rfl (Nat.le_of_ble_eq_true rfl) ?_
  refine RQ.seg 2 (pc' := 2) (L' := [some (.ref 51), some (.int (iI b)), some (.ref 70), some (.int (iI 0)), none, none]) (st' := []) (g1 := (HW sc ar tx oc rl ou tl, q)) rfl ?_
  exact x_hip70_l hF hX hPu hmy hb h99 nb.toNat 0 _ _ (by omega) (if_neg h99) (fun z => ⟨rfl, rfl⟩) (fun z => absurd z (by omega))
theorem x_hip70_f {K : PK} {d : Nat} {sc : Nat → Int} {ar : Nat → Int → Int} {tx oc : Nat} {rl : Nat → Option Nat} {ou : Nat → Int64} {tl : List PO} {q : Nat × Nat} {b : Int} {nw nb : Int} {W B : Int → Int → Int} (hF : FrOK nw nb W B) (hX : FrX (sc 303) (sc 304) (ar 5) (ar 6) (ar 7) (ar 8) (ar 10) (ar 11) (ar 12) nw nb W B) {P : Int → Int} (hPu : ∀ b, 0 ≤ b → b < nb → ar 70 b = P b) (hmy : PtOK nw nb W B P) (hb : 0 ≤ b ∧ b < nb) (h99 : P b ≠ 99) (hP : bkv nb B P b = 1) : CallR K (d + 1) 34 [.ref 51, .int (iI b), .ref 70] (HW sc ar tx oc rl ou tl, q) (some (.int (iI 0))) (HW sc ar tx oc rl ou tl, q) := by
  apply CQ.x
  have hn := hF.1
  have hm1 := hX.1
  have hm2 := hX.2.1
  refine CQ.of (own := 4) (n := 6) (ini := false) (rt := (some .boolean)) (cd := cd34) (by decide +kernel) rfl (by decide +kernel) rfl (Nat.le_of_ble_eq_true rfl) ?_
  refine RQ.seg 2 (pc' := 2) (L' := [some (.ref 51), some (.int (iI b)), some (.ref 70), some (.int (iI 0)), none, none]) (st' := []) (g1 := (HW sc ar tx oc rl ou tl, q)) rfl ?_
  exact x_hip70_l hF hX hPu hmy hb h99 nb.toNat 0 _ _ (by omega) (if_neg h99) (fun z => absurd z (by omega)) (fun z => ⟨rfl, rfl⟩)
theorem x_sf70_l {K : PK} {d : Nat} {sc : Nat → Int} {ar : Nat → Int → Int} {tx oc : Nat} {rl : Nat → Option Nat} {ou : Nat → Int64} {tl : List PO} {q : Nat × Nat} {nw nb : Int} {W B : Int → Int → Int} (hF : FrOK nw nb W B) (hX : FrX (sc 303) (sc 304) (ar 5) (ar 6) (ar 7) (ar 8) (ar 10) (ar 11) (ar 12) nw nb W B) {P : Int → Int} (hPu : ∀ b, 0 ≤ b → b < nb → ar 70 b = P b) (hmy : PtOK nw nb W B P) : ∀ (m n : Nat) (pl wi : Int → Int) (e1 : Option Value) (hn : (n : Int) + m = 3) (hi : (∀ j, 0 ≤ j → j < (n : Int) → pl j = xpl nb B P j ∧ wi j = xwi nb B P j)), RQ K (d + 1) 4 false none cd33 2 [some (.ref 51), some (.ref 70), some (.int (iI (n : Int))), e1] [] (HW sc (usc (usc ar 52 pl) 53 wi) tx oc rl ou tl, q) (fun r g' => r = none ∧ ∃ pl wi, g' = (HW sc (usc (usc ar 52 pl) 53 wi) tx oc rl ou tl, q) ∧ (∀ j, 0 ≤ j → j < 3 → pl j = xpl nb B P j ∧ wi j = xwi nb B P j))
  | 0, n, pl, wi, e1, hn, hi => by
    have hn := hF.1
    have hm1 := hX.1
    have hm2 := hX.2.1
    refine RQ.seg 2 (pc' := 4) (L' := [some (.ref 51), some (.ref 70), some (.int (iI (n : Int))), e1]) (st' := [.int (iI 3), .int (iI (n : Int))]) (g1 := (HW sc (usc (usc ar 52 pl) 53 wi) tx oc rl ou tl, q)) rfl ?_
    refine RQ.if2 (a := (n : Int)) (b := 3) rfl rfl rfl rfl (by omega) (by omega) (fun _ => ?_) (fun (q : ¬ 3 ≤ (n : Int)) => absurd (show 3 ≤ (n : Int) from by omega) q)
    refine RQ.ret rfl rfl ?_
    obtain rfl : n = 3 := by omega
    exact ⟨rfl, pl, wi, rfl, hi⟩
  | m + 1, n, pl, wi, e1, hn, hi => by
    have hn := hF.1
    have hm1 := hX.1
    have hm2 := hX.2.1
    refine RQ.seg 2 (pc' := 4) (L' := [some (.ref 51), some (.ref 70), some (.int (iI (n : Int))), e1]) (st' := [.int (iI 3), .int (iI (n : Int))]) (g1 := (HW sc (usc (usc ar 52 pl) 53 wi) tx oc rl ou tl, q)) rfl ?_
    refine RQ.if2 (a := (n : Int)) (b := 3) rfl rfl rfl rfl (by omega) (by omega) (fun (q : 3 ≤ (n : Int)) => absurd q (show ¬ 3 ≤ (n : Int) from by omega)) (fun _ => ?_)
    refine RQ.seg 4 (pc' := 15) (L' := [some (.ref 51), some (.ref 70), some (.int (iI (n : Int))), e1]) (st' := [.int (iI (sc 304)), .int (iI (n : Int))]) (g1 := (HW sc (usc (usc ar 52 pl) 53 wi) tx oc rl ou tl, q)) rfl ?_
    refine RQ.if2 (a := (n : Int)) (b := (sc 304)) rfl rfl rfl rfl (by omega) (by omega) (fun (h2 : sc 304 ≤ (n : Int)) => ?_) (fun (h2 : ¬ sc 304 ≤ (n : Int)) => ?_)
    · skip
      refine RQ.seg 8 (pc' := 60) (L' := [some (.ref 51), some (.ref 70), some (.int (iI (n : Int))), some (.int (iI 0))]) (st' := [.int (iI (-1)), .int (iI (n : Int)), .ref 52]) (g1 := (HW sc (usc (usc ar 52 pl) 53 wi) tx oc rl ou tl, q)) rfl ?_
      refine RQ.iast (z := (n : Int)) (v := (-1)) (g1 := (HW sc (usc (usc ar 52 (usz pl (n : Int) (-1))) 53 wi) tx oc rl ou tl, q)) rfl rfl rfl rfl (by omega) (by decide) (HWa_52 (by funext j; unfold usc; cases hb : Nat.beq j 52 <;> first | rfl | (rw [Nat.eq_of_beq_eq_true hb]; rfl))) ?_
      refine RQ.seg 6 (pc' := 80) (L' := [some (.ref 51), some (.ref 70), some (.int (iI (n : Int))), some (.int (iI 0))]) (st' := [.int (iI (-1)), .int (iI (n : Int)), .ref 53]) (g1 := (HW sc (usc (usc ar 52 (usz pl (n : Int) (-1))) 53 wi) tx oc rl ou tl, q)) rfl ?_
      refine RQ.iast (z := (n : Int)) (v := (-1)) (g1 := (HW sc (usc (usc ar 52 (usz pl (n : Int) (-1))) 53 (usz wi (n : Int) (-1))) tx oc rl ou tl, q)) rfl rfl rfl rfl (by omega) (by decide) (HWa_53 (by funext j; unfold usc; cases hb : Nat.beq j 53 <;> first | rfl | (rw [Nat.eq_of_beq_eq_true hb]; rfl))) ?_
      refine RQ.seg 2 (pc' := 2) (L' := [some (.ref 51), some (.ref 70), some (.int ((iI (n : Int)) + (iI 1))), some (.int (iI 0))]) (st' := []) (g1 := (HW sc (usc (usc ar 52 (usz pl (n : Int) (-1))) 53 (usz wi (n : Int) (-1))) tx oc rl ou tl, q)) rfl ?_
      refine RQ.to (L' := [some (.ref 51), some (.ref 70), some (.int (iI ((n : Int) + 1))), some (.int (iI 0))]) (st' := []) (by simp only [iI_add, iI_sub, iI_mul, iI_neg]) rfl ?_
      refine x_sf70_l hF hX hPu hmy m (n + 1) _ _ _ (by omega) (fun j j0 j1 => ?_)
      by_cases e : j = (n : Int)
      · subst e; have e9 := xwi_f (nb := nb) (B := B) (P := P) (j := (n : Int)) (fun z => by first | omega | exact absurd (by assumption) (bkv_99 z.2)); rw [usz_s, usz_s, e9.1, e9.2]; exact ⟨rfl, rfl⟩
      · rw [usz_n e, usz_n e]; exact hi j j0 (by omega)
    · skip
      refine RQ.seg 2 (pc' := 20) (L' := [some (.ref 51), some (.ref 70), some (.int (iI (n : Int))), e1]) (st' := [.int (iI (n : Int)), .ref 70]) (g1 := (HW sc (usc (usc ar 52 pl) 53 wi) tx oc rl ou tl, q)) rfl ?_
      have hf1 := hmy.r (b := (n : Int)) (by omega) (by omega)
      refine RQ.ialdv (z := (n : Int)) (v := (P (n : Int))) rfl rfl rfl (by omega) (by decide) (hPu (n : Int) (by omega) (by omega)) ?_
      refine RQ.seg 1 (pc' := 23) (L' := [some (.ref 51), some (.ref 70), some (.int (iI (n : Int))), e1]) (st' := [.int (iI 99), .int (iI (P (n : Int)))]) (g1 := (HW sc (usc (usc ar 52 pl) 53 wi) tx oc rl ou tl, q)) rfl ?_
      refine RQ.if2 (a := (P (n : Int))) (b := 99) rfl rfl rfl rfl (by omega) (by omega) (fun (h3 : P (n : Int) = 99) => ?_) (fun (h3 : ¬ P (n : Int) = 99) => ?_)
      · skip
        refine RQ.seg 8 (pc' := 60) (L' := [some (.ref 51), some (.ref 70), some (.int (iI (n : Int))), some (.int (iI 0))]) (st' := [.int (iI (-1)), .int (iI (n : Int)), .ref 52]) (g1 := (HW sc (usc (usc ar 52 pl) 53 wi) tx oc rl ou tl, q)) rfl ?_
        refine RQ.iast (z := (n : Int)) (v := (-1)) (g1 := (HW sc (usc (usc ar 52 (usz pl (n : Int) (-1))) 53 wi) tx oc rl ou tl, q)) rfl rfl rfl rfl (by omega) (by decide) (HWa_52 (by funext j; unfold usc; cases hb : Nat.beq j 52 <;> first | rfl | (rw [Nat.eq_of_beq_eq_true hb]; rfl))) ?_
        refine RQ.seg 6 (pc' := 80) (L' := [some (.ref 51), some (.ref 70), some (.int (iI (n : Int))), some (.int (iI 0))]) (st' := [.int (iI (-1)), .int (iI (n : Int)), .ref 53]) (g1 := (HW sc (usc (usc ar 52 (usz pl (n : Int) (-1))) 53 wi) tx oc rl ou tl, q)) rfl ?_
        refine RQ.iast (z := (n : Int)) (v := (-1)) (g1 := (HW sc (usc (usc ar 52 (usz pl (n : Int) (-1))) 53 (usz wi (n : Int) (-1))) tx oc rl ou tl, q)) rfl rfl rfl rfl (by omega) (by decide) (HWa_53 (by funext j; unfold usc; cases hb : Nat.beq j 53 <;> first | rfl | (rw [Nat.eq_of_beq_eq_true hb]; rfl))) ?_
        refine RQ.seg 2 (pc' := 2) (L' := [some (.ref 51), some (.ref 70), some (.int ((iI (n : Int)) + (iI 1))), some (.int (iI 0))]) (st' := []) (g1 := (HW sc (usc (usc ar 52 (usz pl (n : Int) (-1))) 53 (usz wi (n : Int) (-1))) tx oc rl ou tl, q)) rfl ?_
        refine RQ.to (L' := [some (.ref 51), some (.ref 70), some (.int (iI ((n : Int) + 1))), some (.int (iI 0))]) (st' := []) (by simp only [iI_add, iI_sub, iI_mul, iI_neg]) rfl ?_
        refine x_sf70_l hF hX hPu hmy m (n + 1) _ _ _ (by omega) (fun j j0 j1 => ?_)
        by_cases e : j = (n : Int)
        · subst e; have e9 := xwi_f (nb := nb) (B := B) (P := P) (j := (n : Int)) (fun z => by first | omega | exact absurd (by assumption) (bkv_99 z.2)); rw [usz_s, usz_s, e9.1, e9.2]; exact ⟨rfl, rfl⟩
        · rw [usz_n e, usz_n e]; exact hi j j0 (by omega)
      · skip
        refine RQ.seg 3 (pc' := 29) (L' := [some (.ref 51), some (.ref 70), some (.int (iI (n : Int))), e1]) (st' := [.ref 70, .int (iI (n : Int)), .ref 51]) (g1 := (HW sc (usc (usc ar 52 pl) 53 wi) tx oc rl ou tl, q)) rfl ?_
        rcases (show bkv nb B P (n : Int) = 0 ∨ bkv nb B P (n : Int) = 1 by have := bkv_r nb B P (n : Int); omega) with h4 | h4
        · skip
          refine RQ.call rfl rfl (x_hip70_t (sc := sc) (ar := usc (usc ar 52 pl) 53 wi) hF hX hPu hmy (b := (n : Int)) (by omega) (by omega) h4) ?_
          refine RQ.seg 11 (pc' := 52) (L' := [some (.ref 51), some (.ref 70), some (.int (iI (n : Int))), some (.int (iI 1))]) (st' := [.int (iI (n : Int)), .ref 70, .int (iI (n : Int)), .ref 52]) (g1 := (HW sc (usc (usc ar 52 pl) 53 wi) tx oc rl ou tl, q)) rfl ?_
          refine RQ.ialdv (z := (n : Int)) (v := (P (n : Int))) rfl rfl rfl (by omega) (by decide) (hPu (n : Int) (by omega) (by omega)) ?_
          refine RQ.seg 1 (pc' := 55) (L' := [some (.ref 51), some (.ref 70), some (.int (iI (n : Int))), some (.int (iI 1))]) (st' := [.int (iI 10), .int (iI (P (n : Int))), .int (iI (n : Int)), .ref 52]) (g1 := (HW sc (usc (usc ar 52 pl) 53 wi) tx oc rl ou tl, q)) rfl ?_
          refine RQ.idiv (a := (P (n : Int))) (b := 10) rfl rfl rfl (by omega) (by omega) ?_
          refine RQ.seg 1 (pc' := 60) (L' := [some (.ref 51), some (.ref 70), some (.int (iI (n : Int))), some (.int (iI 1))]) (st' := [.int (iI ((P (n : Int)) / 10)), .int (iI (n : Int)), .ref 52]) (g1 := (HW sc (usc (usc ar 52 pl) 53 wi) tx oc rl ou tl, q)) rfl ?_
          refine RQ.iast (z := (n : Int)) (v := ((P (n : Int)) / 10)) (g1 := (HW sc (usc (usc ar 52 (usz pl (n : Int) ((P (n : Int)) / 10))) 53 wi) tx oc rl ou tl, q)) rfl rfl rfl rfl (by omega) (by decide) (HWa_52 (by funext j; unfold usc; cases hb : Nat.beq j 52 <;> first | rfl | (rw [Nat.eq_of_beq_eq_true hb]; rfl))) ?_
          refine RQ.seg 7 (pc' := 72) (L' := [some (.ref 51), some (.ref 70), some (.int (iI (n : Int))), some (.int (iI 1))]) (st' := [.int (iI (n : Int)), .ref 70, .int (iI (n : Int)), .ref 53]) (g1 := (HW sc (usc (usc ar 52 (usz pl (n : Int) ((P (n : Int)) / 10))) 53 wi) tx oc rl ou tl, q)) rfl ?_
          refine RQ.ialdv (z := (n : Int)) (v := (P (n : Int))) rfl rfl rfl (by omega) (by decide) (hPu (n : Int) (by omega) (by omega)) ?_
          refine RQ.seg 1 (pc' := 75) (L' := [some (.ref 51), some (.ref 70), some (.int (iI (n : Int))), some (.int (iI 1))]) (st' := [.int (iI 10), .int (iI (P (n : Int))), .int (iI (n : Int)), .ref 53]) (g1 := (HW sc (usc (usc ar 52 (usz pl (n : Int) ((P (n : Int)) / 10))) 53 wi) tx oc rl ou tl, q)) rfl ?_
          refine RQ.irem (a := (P (n : Int))) (b := 10) rfl rfl rfl (by omega) (by omega) ?_
          refine RQ.seg 1 (pc' := 80) (L' := [some (.ref 51), some (.ref 70), some (.int (iI (n : Int))), some (.int (iI 1))]) (st' := [.int (iI ((P (n : Int)) % 10)), .int (iI (n : Int)), .ref 53]) (g1 := (HW sc (usc (usc ar 52 (usz pl (n : Int) ((P (n : Int)) / 10))) 53 wi) tx oc rl ou tl, q)) rfl ?_
          refine RQ.iast (z := (n : Int)) (v := ((P (n : Int)) % 10)) (g1 := (HW sc (usc (usc ar 52 (usz pl (n : Int) ((P (n : Int)) / 10))) 53 (usz wi (n : Int) ((P (n : Int)) % 10))) tx oc rl ou tl, q)) rfl rfl rfl rfl (by omega) (by decide) (HWa_53 (by funext j; unfold usc; cases hb : Nat.beq j 53 <;> first | rfl | (rw [Nat.eq_of_beq_eq_true hb]; rfl))) ?_
          refine RQ.seg 2 (pc' := 2) (L' := [some (.ref 51), some (.ref 70), some (.int ((iI (n : Int)) + (iI 1))), some (.int (iI 1))]) (st' := []) (g1 := (HW sc (usc (usc ar 52 (usz pl (n : Int) ((P (n : Int)) / 10))) 53 (usz wi (n : Int) ((P (n : Int)) % 10))) tx oc rl ou tl, q)) rfl ?_
          refine RQ.to (L' := [some (.ref 51), some (.ref 70), some (.int (iI ((n : Int) + 1))), some (.int (iI 1))]) (st' := []) (by simp only [iI_add, iI_sub, iI_mul, iI_neg]) rfl ?_
          refine x_sf70_l hF hX hPu hmy m (n + 1) _ _ _ (by omega) (fun j j0 j1 => ?_)
          by_cases e : j = (n : Int)
          · subst e; have e9 := xwi_t (nb := nb) (B := B) (P := P) (j := (n : Int)) (by omega) (by omega); rw [usz_s, usz_s, e9.1, e9.2]; exact ⟨rfl, rfl⟩
          · rw [usz_n e, usz_n e]; exact hi j j0 (by omega)
        · skip
          refine RQ.call rfl rfl (x_hip70_f (sc := sc) (ar := usc (usc ar 52 pl) 53 wi) hF hX hPu hmy (b := (n : Int)) (by omega) (by omega) h4) ?_
          refine RQ.seg 9 (pc' := 60) (L' := [some (.ref 51), some (.ref 70), some (.int (iI (n : Int))), some (.int (iI 0))]) (st' := [.int (iI (-1)), .int (iI (n : Int)), .ref 52]) (g1 := (HW sc (usc (usc ar 52 pl) 53 wi) tx oc rl ou tl, q)) rfl ?_
          refine RQ.iast (z := (n : Int)) (v := (-1)) (g1 := (HW sc (usc (usc ar 52 (usz pl (n : Int) (-1))) 53 wi) tx oc rl ou tl, q)) rfl rfl rfl rfl (by omega) (by decide) (HWa_52 (by funext j; unfold usc; cases hb : Nat.beq j 52 <;> first | rfl | (rw [Nat.eq_of_beq_eq_true hb]; rfl))) ?_
          refine RQ.seg 6 (pc' := 80) (L' := [some (.ref 51), some (.ref 70), some (.int (iI (n : Int))), some (.int (iI 0))]) (st' := [.int (iI (-1)), .int (iI (n : Int)), .ref 53]) (g1 := (HW sc (usc (usc ar 52 (usz pl (n : Int) (-1))) 53 wi) tx oc rl ou tl, q)) rfl ?_
          refine RQ.iast (z := (n : Int)) (v := (-1)) (g1 := (HW sc (usc (usc ar 52 (usz pl (n : Int) (-1))) 53 (usz wi (n : Int) (-1))) tx oc rl ou tl, q)) rfl rfl rfl rfl (by omega) (by decide) (HWa_53 (by funext j; unfold usc; cases hb : Nat.beq j 53 <;> first | rfl | (rw [Nat.eq_of_beq_eq_true hb]; rfl))) ?_
          refine RQ.seg 2 (pc' := 2) (L' := [some (.ref 51), some (.ref 70), some (.int ((iI (n : Int)) + (iI 1))), some (.int (iI 0))]) (st' := []) (g1 := (HW sc (usc (usc ar 52 (usz pl (n : Int) (-1))) 53 (usz wi (n : Int) (-1))) tx oc rl ou tl, q)) rfl ?_
          refine RQ.to (L' := [some (.ref 51), some (.ref 70), some (.int (iI ((n : Int) + 1))), some (.int (iI 0))]) (st' := []) (by simp only [iI_add, iI_sub, iI_mul, iI_neg]) rfl ?_
          refine x_sf70_l hF hX hPu hmy m (n + 1) _ _ _ (by omega) (fun j j0 j1 => ?_)
          by_cases e : j = (n : Int)
          · subst e; have e9 := xwi_f (nb := nb) (B := B) (P := P) (j := (n : Int)) (fun z => by first | omega | exact absurd (by assumption) (bkv_99 z.2)); rw [usz_s, usz_s, e9.1, e9.2]; exact ⟨rfl, rfl⟩
          · rw [usz_n e, usz_n e]; exact hi j j0 (by omega)
theorem x_sf70 {K : PK} {d : Nat} {sc : Nat → Int} {ar : Nat → Int → Int} {tx oc : Nat} {rl : Nat → Option Nat} {ou : Nat → Int64} {tl : List PO} {q : Nat × Nat} {nw nb : Int} {W B : Int → Int → Int} (hF : FrOK nw nb W B) (hX : FrX (sc 303) (sc 304) (ar 5) (ar 6) (ar 7) (ar 8) (ar 10) (ar 11) (ar 12) nw nb W B) {P : Int → Int} (hPu : ∀ b, 0 ≤ b → b < nb → ar 70 b = P b) (hmy : PtOK nw nb W B P) : CQ K (d + 2) 33 [.ref 51, .ref 70] (HW sc ar tx oc rl ou tl, q) (fun r g' => r = none ∧ ∃ pl wi, g' = (HW sc (usc (usc ar 52 pl) 53 wi) tx oc rl ou tl, q) ∧ (∀ j, 0 ≤ j → j < 3 → pl j = xpl nb B P j ∧ wi j = xwi nb B P j)) := by
  have hn := hF.1
  have hm1 := hX.1
  have hm2 := hX.2.1
  refine CQ.of (own := 4) (n := 4) (ini := false) (rt := none) (cd := cd33) (by decide +kernel) rfl (by decide +kernel) rfl (Nat.le_of_ble_eq_true rfl) ?_
  refine RQ.seg 2 (pc' := 2) (L' := [some (.ref 51), some (.ref 70), some (.int (iI 0)), none]) (st' := []) (g1 := (HW sc ar tx oc rl ou tl, q)) rfl ?_
  exact x_sf70_l hF hX hPu hmy 3 0 (ar 52) (ar 53) _ (by omega) (fun j h0 h1 => absurd h1 (by omega))
theorem x_cross {K : PK} {d : Nat} {sc : Nat → Int} {ar : Nat → Int → Int} {tx oc : Nat} {rl : Nat → Option Nat} {ou : Nat → Int64} {tl : List PO} {q : Nat × Nat} {a b : Int} {nw nb : Int} {W B : Int → Int → Int} (hF : FrOK nw nb W B) (hX : FrX (sc 303) (sc 304) (ar 5) (ar 6) (ar 7) (ar 8) (ar 10) (ar 11) (ar 12) nw nb W B) {P : Int → Int} (hmy : PtOK nw nb W B P) (hpl : ∀ j, 0 ≤ j → j < 3 → ar 52 j = xpl nb B P j) (hwi : ∀ j, 0 ≤ j → j < 3 → ar 53 j = xwi nb B P j) (ha : 0 ≤ a ∧ a < nb) (hb : 0 ≤ b ∧ b < nb) (hab : a ≠ b) : CallR K (d + 1) 36 [.ref 51, .int (iI a), .int (iI b)] (HW sc ar tx oc rl ou tl, q) (some (.int (iI (crz nb W B P a b)))) (HW sc ar tx oc rl ou tl, q) := by
  apply CQ.x
  have hn := hF.1
  have hm1 := hX.1
  have hm2 := hX.2.1
  have ra := xwi_r hmy hn.1 ha.1
  have rb := xwi_r hmy hn.1 hb.1
  refine CQ.of (own := 4) (n := 5) (ini := false) (rt := (some .boolean)) (cd := cd36) (by decide +kernel) rfl (by decide +kernel) rfl (Nat.le_of_ble_eq_true rfl) ?_
  refine RQ.seg 3 (pc' := 5) (L' := [some (.ref 51), some (.int (iI a)), some (.int (iI b)), none, none]) (st' := [.int (iI a), .ref 53]) (g1 := (HW sc ar tx oc rl ou tl, q)) rfl ?_
  refine RQ.ialdv (z := a) (v := (xwi nb B P a)) rfl rfl rfl (by omega) (by decide) (hwi a (by omega) (by omega)) ?_
  refine RQ.seg 1 (pc' := 7) (L' := [some (.ref 51), some (.int (iI a)), some (.int (iI b)), none, none]) (st' := [.int (iI (-1)), .int (iI (xwi nb B P a))]) (g1 := (HW sc ar tx oc rl ou tl, q)) rfl ?_
  refine RQ.if2 (a := (xwi nb B P a)) (b := (-1)) rfl rfl rfl rfl (by omega) (by omega) (fun (h1 : xwi nb B P a = (-1)) => ?_) (fun (h1 : ¬ xwi nb B P a = (-1)) => ?_)
  · skip
    refine RQ.seg 1 (pc' := 21) (L' := [some (.ref 51), some (.int (iI a)), some (.int (iI b)), none, none]) (st' := [.int (iI 0)]) (g1 := (HW sc ar tx oc rl ou tl, q)) rfl ?_
    refine RQ.ret rfl rfl ?_
    refine ⟨?_, rfl⟩
    rw [crz, if_neg (fun z => ?_)]
    have za := xwi_t (j := a) (by omega) z.2.1
    have zb := xwi_t (j := b) (by omega) z.2.2.1
    have za2 := hmy.w ha.1 ha.2 z.2.1
    have zb2 := hmy.w hb.1 hb.2 z.2.2.1
    omega
  · skip
    refine RQ.seg 3 (pc' := 15) (L' := [some (.ref 51), some (.int (iI a)), some (.int (iI b)), none, none]) (st' := [.int (iI b), .ref 53]) (g1 := (HW sc ar tx oc rl ou tl, q)) rfl ?_
    refine RQ.ialdv (z := b) (v := (xwi nb B P b)) rfl rfl rfl (by omega) (by decide) (hwi b (by omega) (by omega)) ?_
    refine RQ.seg 1 (pc' := 17) (L' := [some (.ref 51), some (.int (iI a)), some (.int (iI b)), none, none]) (st' := [.int (iI (-1)), .int (iI (xwi nb B P b))]) (g1 := (HW sc ar tx oc rl ou tl, q)) rfl ?_
    refine RQ.if2 (a := (xwi nb B P b)) (b := (-1)) rfl rfl rfl rfl (by omega) (by omega) (fun (h2 : xwi nb B P b ≠ (-1)) => ?_) (fun (h2 : ¬ xwi nb B P b ≠ (-1)) => ?_)
    · skip
      obtain ⟨qa, ka, ea⟩ := ra.2.2.2.2 h1
      obtain ⟨qb, kb, eb⟩ := rb.2.2.2.2 h2
      have hpa := hmy.w ha.1 qa ka
      have hpb := hmy.w hb.1 qb kb
      have hwa := hF.2.1 (P a % 10) (by omega) (by omega)
      have hwb := hF.2.1 (P b % 10) (by omega) (by omega)
      have hnl := mulb (a := P a / 10 - P b / 10) (b := W (P a % 10) 0 - W (P b % 10) 0) (n := 10) (by omega) (by omega)
      clear ra rb
      refine RQ.seg 3 (pc' := 27) (L' := [some (.ref 51), some (.int (iI a)), some (.int (iI b)), none, none]) (st' := [.int (iI a), .ref 52]) (g1 := (HW sc ar tx oc rl ou tl, q)) rfl ?_
      refine RQ.ialdv (z := a) (v := (P a / 10)) rfl rfl rfl (by omega) (by decide) ((hpl a (by omega) (by omega)).trans ea.2) ?_
      refine RQ.seg 3 (pc' := 33) (L' := [some (.ref 51), some (.int (iI a)), some (.int (iI b)), none, none]) (st' := [.int (iI b), .ref 52, .int (iI (P a / 10))]) (g1 := (HW sc ar tx oc rl ou tl, q)) rfl ?_
      refine RQ.ialdv (z := b) (v := (P b / 10)) rfl rfl rfl (by omega) (by decide) ((hpl b (by omega) (by omega)).trans eb.2) ?_
      refine RQ.seg 8 (pc' := 48) (L' := [some (.ref 51), some (.int (iI a)), some (.int (iI b)), some (.int ((iI (P a / 10)) - (iI (P b / 10)))), none]) (st' := [.int (iI a), .ref 53, .ref 4]) (g1 := (HW sc ar tx oc rl ou tl, q)) rfl ?_
      refine RQ.ialdv (z := a) (v := (P a % 10)) rfl rfl rfl (by omega) (by decide) ((hwi a (by omega) (by omega)).trans ea.1) ?_
      refine RQ.aald (z := (P a % 10)) rfl rfl rfl (by omega) (by decide) ?_
      refine RQ.seg 1 (pc' := 51) (L' := [some (.ref 51), some (.int (iI a)), some (.int (iI b)), some (.int ((iI (P a / 10)) - (iI (P b / 10)))), none]) (st' := [.int (iI 0), .ref (5 + (P a % 10).toNat)]) (g1 := (HW sc ar tx oc rl ou tl, q)) rfl ?_
      have hf1 := hF.2.1 (P a % 10) (by omega) (by omega)
      refine RQ.ialdv (z := 0) (v := (W (P a % 10) 0)) rfl rfl (HW_r4 (by omega)) (by omega) (by decide) (frx_w (j := 0) hX (by omega) (by omega) (by omega) (by omega) hF.1.2.1) ?_
      refine RQ.seg 6 (pc' := 64) (L' := [some (.ref 51), some (.int (iI a)), some (.int (iI b)), some (.int ((iI (P a / 10)) - (iI (P b / 10)))), none]) (st' := [.int (iI b), .ref 53, .ref 4, .int (iI (W (P a % 10) 0))]) (g1 := (HW sc ar tx oc rl ou tl, q)) rfl ?_
      refine RQ.ialdv (z := b) (v := (P b % 10)) rfl rfl rfl (by omega) (by decide) ((hwi b (by omega) (by omega)).trans eb.1) ?_
      refine RQ.aald (z := (P b % 10)) rfl rfl rfl (by omega) (by decide) ?_
      refine RQ.seg 1 (pc' := 67) (L' := [some (.ref 51), some (.int (iI a)), some (.int (iI b)), some (.int ((iI (P a / 10)) - (iI (P b / 10)))), none]) (st' := [.int (iI 0), .ref (5 + (P b % 10).toNat), .int (iI (W (P a % 10) 0))]) (g1 := (HW sc ar tx oc rl ou tl, q)) rfl ?_
      have hf2 := hF.2.1 (P b % 10) (by omega) (by omega)
      refine RQ.ialdv (z := 0) (v := (W (P b % 10) 0)) rfl rfl (HW_r4 (by omega)) (by omega) (by decide) (frx_w (j := 0) hX (by omega) (by omega) (by omega) (by omega) hF.1.2.1) ?_
      refine RQ.seg 5 (pc' := 75) (L' := [some (.ref 51), some (.int (iI a)), some (.int (iI b)), some (.int ((iI (P a / 10)) - (iI (P b / 10)))), some (.int ((iI (W (P a % 10) 0)) - (iI (W (P b % 10) 0))))]) (st' := [.int (((iI (P a / 10)) - (iI (P b / 10))) * ((iI (W (P a % 10) 0)) - (iI (W (P b % 10) 0))))]) (g1 := (HW sc ar tx oc rl ou tl, q)) rfl ?_
      refine RQ.if1 (a := ((P a / 10 - (P b / 10)) * (W (P a % 10) 0 - (W (P b % 10) 0)))) rfl rfl (by simp only [iI_add, iI_sub, iI_mul, iI_neg]) (by omega) (fun (h3 : 0 ≤ (P a / 10 - (P b / 10)) * (W (P a % 10) 0 - (W (P b % 10) 0))) => ?_) (fun (h3 : ¬ 0 ≤ (P a / 10 - (P b / 10)) * (W (P a % 10) 0 - (W (P b % 10) 0))) => ?_)
      · skip
        refine RQ.seg 1 (pc' := 83) (L' := [some (.ref 51), some (.int (iI a)), some (.int (iI b)), some (.int ((iI (P a / 10)) - (iI (P b / 10)))), some (.int ((iI (W (P a % 10) 0)) - (iI (W (P b % 10) 0))))]) (st' := [.int (iI 0)]) (g1 := (HW sc ar tx oc rl ou tl, q)) rfl ?_
        refine RQ.to (L' := [some (.ref 51), some (.int (iI a)), some (.int (iI b)), some (.int (iI (P a / 10 - (P b / 10)))), some (.int (iI (W (P a % 10) 0 - (W (P b % 10) 0))))]) (st' := [.int (iI 0)]) (by simp only [iI_add, iI_sub, iI_mul, iI_neg]) rfl ?_
        refine RQ.ret rfl rfl ?_
        refine ⟨?_, rfl⟩
        rw [crz]
        first | rw [if_pos ⟨by omega, ka, kb, by omega⟩] | rw [if_neg (fun z => by omega)]
      · skip
        refine RQ.seg 2 (pc' := 83) (L' := [some (.ref 51), some (.int (iI a)), some (.int (iI b)), some (.int ((iI (P a / 10)) - (iI (P b / 10)))), some (.int ((iI (W (P a % 10) 0)) - (iI (W (P b % 10) 0))))]) (st' := [.int (iI 1)]) (g1 := (HW sc ar tx oc rl ou tl, q)) rfl ?_
        refine RQ.to (L' := [some (.ref 51), some (.int (iI a)), some (.int (iI b)), some (.int (iI (P a / 10 - (P b / 10)))), some (.int (iI (W (P a % 10) 0 - (W (P b % 10) 0))))]) (st' := [.int (iI 1)]) (by simp only [iI_add, iI_sub, iI_mul, iI_neg]) rfl ?_
        refine RQ.ret rfl rfl ?_
        refine ⟨?_, rfl⟩
        rw [crz]
        first | rw [if_pos ⟨by omega, ka, kb, by omega⟩] | rw [if_neg (fun z => by omega)]
    · skip
      refine RQ.seg 1 (pc' := 21) (L' := [some (.ref 51), some (.int (iI a)), some (.int (iI b)), none, none]) (st' := [.int (iI 0)]) (g1 := (HW sc ar tx oc rl ou tl, q)) rfl ?_
      refine RQ.ret rfl rfl ?_
      refine ⟨?_, rfl⟩
      rw [crz, if_neg (fun z => ?_)]
      have za := xwi_t (j := a) (by omega) z.2.1
      have zb := xwi_t (j := b) (by omega) z.2.2.1
      have za2 := hmy.w ha.1 ha.2 z.2.1
      have zb2 := hmy.w hb.1 hb.2 z.2.2.1
      omega
theorem x_sh0 {K : PK} {d : Nat} {sc : Nat → Int} {ar : Nat → Int → Int} {tx oc : Nat} {rl : Nat → Option Nat} {ou : Nat → Int64} {tl : List PO} {q : Nat × Nat} {nw nb : Int} {W B : Int → Int → Int} (hF : FrOK nw nb W B) (hX : FrX (sc 303) (sc 304) (ar 5) (ar 6) (ar 7) (ar 8) (ar 10) (ar 11) (ar 12) nw nb W B) {P : Int → Int} (hmy : PtOK nw nb W B P) (hpl : ∀ j, 0 ≤ j → j < 3 → ar 52 j = xpl nb B P j) (hwi : ∀ j, 0 ≤ j → j < 3 → ar 53 j = xwi nb B P j) (hk : nb = 0) : CQ K (d + 2) 35 [.ref 51] (HW sc ar tx oc rl ou tl, q) (fun r g' => r = none ∧ ∃ sh, g' = (HW sc (usc ar 57 sh) tx oc rl ou tl, q) ∧ ∀ j, 0 ≤ j → j < 3 → sh j = if j < nb then shk nb W B P j else 0) := by
  have hn := hF.1
  have hm1 := hX.1
  have hm2 := hX.2.1
  refine CQ.of (own := 4) (n := 3) (ini := false) (rt := none) (cd := cd35) (by decide +kernel) rfl (by decide +kernel) rfl (Nat.le_of_ble_eq_true rfl) ?_
  refine RQ.seg 9 (pc' := 13) (L' := [some (.ref 51), some (.int (iI 0)), none]) (st' := [.int (iI 0), .int (iI 0), .ref 57]) (g1 := (HW sc ar tx oc rl ou tl, q)) rfl ?_
  refine RQ.iast (z := 0) (v := 0) (g1 := (HW sc (usc ar 57 (usz (ar 57) 0 0)) tx oc rl ou tl, q)) rfl rfl rfl rfl (by omega) (by decide) (HWa_57 rfl) ?_
  refine RQ.seg 9 (pc' := 13) (L' := [some (.ref 51), some (.int (iI 1)), none]) (st' := [.int (iI 0), .int (iI 1), .ref 57]) (g1 := (HW sc (usc ar 57 (usz (ar 57) 0 0)) tx oc rl ou tl, q)) rfl ?_
  refine RQ.iast (z := 1) (v := 0) (g1 := (HW sc (usc ar 57 (usz (usz (ar 57) 0 0) 1 0)) tx oc rl ou tl, q)) rfl rfl rfl rfl (by omega) (by decide) (HWa_57 (by funext j; unfold usc; cases hb : Nat.beq j 57 <;> first | rfl | (rw [Nat.eq_of_beq_eq_true hb]; rfl))) ?_
  refine RQ.seg 9 (pc' := 13) (L' := [some (.ref 51), some (.int (iI 2)), none]) (st' := [.int (iI 0), .int (iI 2), .ref 57]) (g1 := (HW sc (usc ar 57 (usz (usz (ar 57) 0 0) 1 0)) tx oc rl ou tl, q)) rfl ?_
  refine RQ.iast (z := 2) (v := 0) (g1 := (HW sc (usc ar 57 (usz (usz (usz (ar 57) 0 0) 1 0) 2 0)) tx oc rl ou tl, q)) rfl rfl rfl rfl (by omega) (by decide) (HWa_57 (by funext j; unfold usc; cases hb : Nat.beq j 57 <;> first | rfl | (rw [Nat.eq_of_beq_eq_true hb]; rfl))) ?_
  refine RQ.seg 11 (pc' := 30) (L' := [some (.ref 51), some (.int (iI 0)), none]) (st' := [.int (iI (sc 304)), .int (iI 0)]) (g1 := (HW sc (usc ar 57 (usz (usz (usz (ar 57) 0 0) 1 0) 2 0)) tx oc rl ou tl, q)) rfl ?_
  refine RQ.to (L' := [some (.ref 51), some (.int (iI 0)), none]) (st' := [.int (iI 0), .int (iI 0)]) rfl (by rw [show sc 304 = 0 from (hX.2.1.trans hk)]) ?_
  refine RQ.seg 1 (pc' := 89) (L' := [some (.ref 51), some (.int (iI 0)), none]) (st' := []) (g1 := (HW sc (usc ar 57 (usz (usz (usz (ar 57) 0 0) 1 0) 2 0)) tx oc rl ou tl, q)) rfl ?_
  refine RQ.ret rfl rfl ?_
  refine ⟨rfl, _, rfl, fun j h0 h1 => ?_⟩
  rcases (show j = 0 ∨ j = 1 ∨ j = 2 by omega) with rfl | rfl | rfl
  · rw [show (usz (usz (usz (ar 57) 0 0) 1 0) 2 0) 0 = 0 by rw [usz_n (by omega), usz_n (by omega), usz_s]]
    rw [if_neg (by omega)]
  · rw [show (usz (usz (usz (ar 57) 0 0) 1 0) 2 0) 1 = 0 by rw [usz_n (by omega), usz_s]]
    rw [if_neg (by omega)]
  · rw [show (usz (usz (usz (ar 57) 0 0) 1 0) 2 0) 2 = 0 by rw [usz_s]]
    rw [if_neg (by omega)]
theorem x_sh1 {K : PK} {d : Nat} {sc : Nat → Int} {ar : Nat → Int → Int} {tx oc : Nat} {rl : Nat → Option Nat} {ou : Nat → Int64} {tl : List PO} {q : Nat × Nat} {nw nb : Int} {W B : Int → Int → Int} (hF : FrOK nw nb W B) (hX : FrX (sc 303) (sc 304) (ar 5) (ar 6) (ar 7) (ar 8) (ar 10) (ar 11) (ar 12) nw nb W B) {P : Int → Int} (hmy : PtOK nw nb W B P) (hpl : ∀ j, 0 ≤ j → j < 3 → ar 52 j = xpl nb B P j) (hwi : ∀ j, 0 ≤ j → j < 3 → ar 53 j = xwi nb B P j) (hk : nb = 1) : CQ K (d + 2) 35 [.ref 51] (HW sc ar tx oc rl ou tl, q) (fun r g' => r = none ∧ ∃ sh, g' = (HW sc (usc ar 57 sh) tx oc rl ou tl, q) ∧ ∀ j, 0 ≤ j → j < 3 → sh j = if j < nb then shk nb W B P j else 0) := by
  have hn := hF.1
  have hm1 := hX.1
  have hm2 := hX.2.1
  refine CQ.of (own := 4) (n := 3) (ini := false) (rt := none) (cd := cd35) (by decide +kernel) rfl (by decide +kernel) rfl (Nat.le_of_ble_eq_true rfl) ?_
  refine RQ.seg 9 (pc' := 13) (L' := [some (.ref 51), some (.int (iI 0)), none]) (st' := [.int (iI 0), .int (iI 0), .ref 57]) (g1 := (HW sc ar tx oc rl ou tl, q)) rfl ?_
  refine RQ.iast (z := 0) (v := 0) (g1 := (HW sc (usc ar 57 (usz (ar 57) 0 0)) tx oc rl ou tl, q)) rfl rfl rfl rfl (by omega) (by decide) (HWa_57 rfl) ?_
  refine RQ.seg 9 (pc' := 13) (L' := [some (.ref 51), some (.int (iI 1)), none]) (st' := [.int (iI 0), .int (iI 1), .ref 57]) (g1 := (HW sc (usc ar 57 (usz (ar 57) 0 0)) tx oc rl ou tl, q)) rfl ?_
  refine RQ.iast (z := 1) (v := 0) (g1 := (HW sc (usc ar 57 (usz (usz (ar 57) 0 0) 1 0)) tx oc rl ou tl, q)) rfl rfl rfl rfl (by omega) (by decide) (HWa_57 (by funext j; unfold usc; cases hb : Nat.beq j 57 <;> first | rfl | (rw [Nat.eq_of_beq_eq_true hb]; rfl))) ?_
  refine RQ.seg 9 (pc' := 13) (L' := [some (.ref 51), some (.int (iI 2)), none]) (st' := [.int (iI 0), .int (iI 2), .ref 57]) (g1 := (HW sc (usc ar 57 (usz (usz (ar 57) 0 0) 1 0)) tx oc rl ou tl, q)) rfl ?_
  refine RQ.iast (z := 2) (v := 0) (g1 := (HW sc (usc ar 57 (usz (usz (usz (ar 57) 0 0) 1 0) 2 0)) tx oc rl ou tl, q)) rfl rfl rfl rfl (by omega) (by decide) (HWa_57 (by funext j; unfold usc; cases hb : Nat.beq j 57 <;> first | rfl | (rw [Nat.eq_of_beq_eq_true hb]; rfl))) ?_
  refine RQ.seg 11 (pc' := 30) (L' := [some (.ref 51), some (.int (iI 0)), none]) (st' := [.int (iI (sc 304)), .int (iI 0)]) (g1 := (HW sc (usc ar 57 (usz (usz (usz (ar 57) 0 0) 1 0) 2 0)) tx oc rl ou tl, q)) rfl ?_
  refine RQ.to (L' := [some (.ref 51), some (.int (iI 0)), none]) (st' := [.int (iI 1), .int (iI 0)]) rfl (by rw [show sc 304 = 1 from (hX.2.1.trans hk)]) ?_
  refine RQ.seg 9 (pc' := 45) (L' := [some (.ref 51), some (.int (iI 0)), some (.int (iI 1))]) (st' := [.int (iI (sc 304)), .int (iI 1)]) (g1 := (HW sc (usc ar 57 (usz (usz (usz (ar 57) 0 0) 1 0) 2 0)) tx oc rl ou tl, q)) rfl ?_
  refine RQ.to (L' := [some (.ref 51), some (.int (iI 0)), some (.int (iI 1))]) (st' := [.int (iI 1), .int (iI 1)]) rfl (by rw [show sc 304 = 1 from (hX.2.1.trans hk)]) ?_
  refine RQ.seg 7 (pc' := 30) (L' := [some (.ref 51), some (.int (iI 1)), some (.int (iI 1))]) (st' := [.int (iI (sc 304)), .int (iI 1)]) (g1 := (HW sc (usc ar 57 (usz (usz (usz (ar 57) 0 0) 1 0) 2 0)) tx oc rl ou tl, q)) rfl ?_
  refine RQ.to (L' := [some (.ref 51), some (.int (iI 1)), some (.int (iI 1))]) (st' := [.int (iI 1), .int (iI 1)]) rfl (by rw [show sc 304 = 1 from (hX.2.1.trans hk)]) ?_
  refine RQ.seg 1 (pc' := 89) (L' := [some (.ref 51), some (.int (iI 1)), some (.int (iI 1))]) (st' := []) (g1 := (HW sc (usc ar 57 (usz (usz (usz (ar 57) 0 0) 1 0) 2 0)) tx oc rl ou tl, q)) rfl ?_
  refine RQ.ret rfl rfl ?_
  refine ⟨rfl, _, rfl, fun j h0 h1 => ?_⟩
  rcases (show j = 0 ∨ j = 1 ∨ j = 2 by omega) with rfl | rfl | rfl
  · rw [show (usz (usz (usz (ar 57) 0 0) 1 0) 2 0) 0 = 0 by rw [usz_n (by omega), usz_n (by omega), usz_s]]
    rw [if_pos (by omega), show shk nb W B P 0 = 0 + crz nb W B P 0 0 by rw [shk, hk]; rfl, crz_ii]
    omega
  · rw [show (usz (usz (usz (ar 57) 0 0) 1 0) 2 0) 1 = 0 by rw [usz_n (by omega), usz_s]]
    rw [if_neg (by omega)]
  · rw [show (usz (usz (usz (ar 57) 0 0) 1 0) 2 0) 2 = 0 by rw [usz_s]]
    rw [if_neg (by omega)]
theorem x_sh2 {K : PK} {d : Nat} {sc : Nat → Int} {ar : Nat → Int → Int} {tx oc : Nat} {rl : Nat → Option Nat} {ou : Nat → Int64} {tl : List PO} {q : Nat × Nat} {nw nb : Int} {W B : Int → Int → Int} (hF : FrOK nw nb W B) (hX : FrX (sc 303) (sc 304) (ar 5) (ar 6) (ar 7) (ar 8) (ar 10) (ar 11) (ar 12) nw nb W B) {P : Int → Int} (hmy : PtOK nw nb W B P) (hpl : ∀ j, 0 ≤ j → j < 3 → ar 52 j = xpl nb B P j) (hwi : ∀ j, 0 ≤ j → j < 3 → ar 53 j = xwi nb B P j) (hk : nb = 2) : CQ K (d + 2) 35 [.ref 51] (HW sc ar tx oc rl ou tl, q) (fun r g' => r = none ∧ ∃ sh, g' = (HW sc (usc ar 57 sh) tx oc rl ou tl, q) ∧ ∀ j, 0 ≤ j → j < 3 → sh j = if j < nb then shk nb W B P j else 0) := by
  have hn := hF.1
  have hm1 := hX.1
  have hm2 := hX.2.1
  refine CQ.of (own := 4) (n := 3) (ini := false) (rt := none) (cd := cd35) (by decide +kernel) rfl (by decide +kernel) rfl (Nat.le_of_ble_eq_true rfl) ?_
  refine RQ.seg 9 (pc' := 13) (L' := [some (.ref 51), some (.int (iI 0)), none]) (st' := [.int (iI 0), .int (iI 0), .ref 57]) (g1 := (HW sc ar tx oc rl ou tl, q)) rfl ?_
  refine RQ.iast (z := 0) (v := 0) (g1 := (HW sc (usc ar 57 (usz (ar 57) 0 0)) tx oc rl ou tl, q)) rfl rfl rfl rfl (by omega) (by decide) (HWa_57 rfl) ?_
  refine RQ.seg 9 (pc' := 13) (L' := [some (.ref 51), some (.int (iI 1)), none]) (st' := [.int (iI 0), .int (iI 1), .ref 57]) (g1 := (HW sc (usc ar 57 (usz (ar 57) 0 0)) tx oc rl ou tl, q)) rfl ?_
  refine RQ.iast (z := 1) (v := 0) (g1 := (HW sc (usc ar 57 (usz (usz (ar 57) 0 0) 1 0)) tx oc rl ou tl, q)) rfl rfl rfl rfl (by omega) (by decide) (HWa_57 (by funext j; unfold usc; cases hb : Nat.beq j 57 <;> first | rfl | (rw [Nat.eq_of_beq_eq_true hb]; rfl))) ?_
  refine RQ.seg 9 (pc' := 13) (L' := [some (.ref 51), some (.int (iI 2)), none]) (st' := [.int (iI 0), .int (iI 2), .ref 57]) (g1 := (HW sc (usc ar 57 (usz (usz (ar 57) 0 0) 1 0)) tx oc rl ou tl, q)) rfl ?_
  refine RQ.iast (z := 2) (v := 0) (g1 := (HW sc (usc ar 57 (usz (usz (usz (ar 57) 0 0) 1 0) 2 0)) tx oc rl ou tl, q)) rfl rfl rfl rfl (by omega) (by decide) (HWa_57 (by funext j; unfold usc; cases hb : Nat.beq j 57 <;> first | rfl | (rw [Nat.eq_of_beq_eq_true hb]; rfl))) ?_
  refine RQ.seg 11 (pc' := 30) (L' := [some (.ref 51), some (.int (iI 0)), none]) (st' := [.int (iI (sc 304)), .int (iI 0)]) (g1 := (HW sc (usc ar 57 (usz (usz (usz (ar 57) 0 0) 1 0) 2 0)) tx oc rl ou tl, q)) rfl ?_
  refine RQ.to (L' := [some (.ref 51), some (.int (iI 0)), none]) (st' := [.int (iI 2), .int (iI 0)]) rfl (by rw [show sc 304 = 2 from (hX.2.1.trans hk)]) ?_
  refine RQ.seg 9 (pc' := 45) (L' := [some (.ref 51), some (.int (iI 0)), some (.int (iI 1))]) (st' := [.int (iI (sc 304)), .int (iI 1)]) (g1 := (HW sc (usc ar 57 (usz (usz (usz (ar 57) 0 0) 1 0) 2 0)) tx oc rl ou tl, q)) rfl ?_
  refine RQ.to (L' := [some (.ref 51), some (.int (iI 0)), some (.int (iI 1))]) (st' := [.int (iI 2), .int (iI 1)]) rfl (by rw [show sc 304 = 2 from (hX.2.1.trans hk)]) ?_
  refine RQ.seg 4 (pc' := 51) (L' := [some (.ref 51), some (.int (iI 0)), some (.int (iI 1))]) (st' := [.int (iI 1), .int (iI 0), .ref 51]) (g1 := (HW sc (usc ar 57 (usz (usz (usz (ar 57) 0 0) 1 0) 2 0)) tx oc rl ou tl, q)) rfl ?_
  refine RQ.call rfl rfl (x_cross (sc := sc) (ar := usc ar 57 (usz (usz (usz (ar 57) 0 0) 1 0) 2 0)) hF hX hmy hpl hwi (a := 0) (b := 1) (by omega) (by omega) (by omega)) ?_
  have zh1 := crz_r nb W B P 0 1
  refine RQ.if1 (a := (crz nb W B P 0 1)) rfl rfl rfl (by omega) (fun (h2 : crz nb W B P 0 1 = 0) => ?_) (fun (h2 : ¬ crz nb W B P 0 1 = 0) => ?_)
  · skip
    refine RQ.seg 6 (pc' := 45) (L' := [some (.ref 51), some (.int (iI 0)), some (.int (iI 2))]) (st' := [.int (iI (sc 304)), .int (iI 2)]) (g1 := (HW sc (usc ar 57 (usz (usz (usz (ar 57) 0 0) 1 0) 2 0)) tx oc rl ou tl, q)) rfl ?_
    refine RQ.to (L' := [some (.ref 51), some (.int (iI 0)), some (.int (iI 2))]) (st' := [.int (iI 2), .int (iI 2)]) rfl (by rw [show sc 304 = 2 from (hX.2.1.trans hk)]) ?_
    refine RQ.seg 7 (pc' := 30) (L' := [some (.ref 51), some (.int (iI 1)), some (.int (iI 2))]) (st' := [.int (iI (sc 304)), .int (iI 1)]) (g1 := (HW sc (usc ar 57 (usz (usz (usz (ar 57) 0 0) 1 0) 2 0)) tx oc rl ou tl, q)) rfl ?_
    refine RQ.to (L' := [some (.ref 51), some (.int (iI 1)), some (.int (iI 2))]) (st' := [.int (iI 2), .int (iI 1)]) rfl (by rw [show sc 304 = 2 from (hX.2.1.trans hk)]) ?_
    refine RQ.seg 9 (pc' := 45) (L' := [some (.ref 51), some (.int (iI 1)), some (.int (iI 2))]) (st' := [.int (iI (sc 304)), .int (iI 2)]) (g1 := (HW sc (usc ar 57 (usz (usz (usz (ar 57) 0 0) 1 0) 2 0)) tx oc rl ou tl, q)) rfl ?_
    refine RQ.to (L' := [some (.ref 51), some (.int (iI 1)), some (.int (iI 2))]) (st' := [.int (iI 2), .int (iI 2)]) rfl (by rw [show sc 304 = 2 from (hX.2.1.trans hk)]) ?_
    refine RQ.seg 7 (pc' := 30) (L' := [some (.ref 51), some (.int (iI 2)), some (.int (iI 2))]) (st' := [.int (iI (sc 304)), .int (iI 2)]) (g1 := (HW sc (usc ar 57 (usz (usz (usz (ar 57) 0 0) 1 0) 2 0)) tx oc rl ou tl, q)) rfl ?_
    refine RQ.to (L' := [some (.ref 51), some (.int (iI 2)), some (.int (iI 2))]) (st' := [.int (iI 2), .int (iI 2)]) rfl (by rw [show sc 304 = 2 from (hX.2.1.trans hk)]) ?_
    refine RQ.seg 1 (pc' := 89) (L' := [some (.ref 51), some (.int (iI 2)), some (.int (iI 2))]) (st' := []) (g1 := (HW sc (usc ar 57 (usz (usz (usz (ar 57) 0 0) 1 0) 2 0)) tx oc rl ou tl, q)) rfl ?_
    refine RQ.ret rfl rfl ?_
    refine ⟨rfl, _, rfl, fun j h0 h1 => ?_⟩
    rcases (show j = 0 ∨ j = 1 ∨ j = 2 by omega) with rfl | rfl | rfl
    · rw [show (usz (usz (usz (ar 57) 0 0) 1 0) 2 0) 0 = 0 by rw [usz_n (by omega), usz_n (by omega), usz_s]]
      rw [if_pos (by omega), show shk nb W B P 0 = 0 + crz nb W B P 0 0 + crz nb W B P 0 1 by rw [shk, hk]; rfl, crz_ii]
      omega
    · rw [show (usz (usz (usz (ar 57) 0 0) 1 0) 2 0) 1 = 0 by rw [usz_n (by omega), usz_s]]
      rw [if_pos (by omega), show shk nb W B P 1 = 0 + crz nb W B P 1 0 + crz nb W B P 1 1 by rw [shk, hk]; rfl, crz_ii, crz_sy nb W B P 1 0]
      omega
    · rw [show (usz (usz (usz (ar 57) 0 0) 1 0) 2 0) 2 = 0 by rw [usz_s]]
      rw [if_neg (by omega)]
  · skip
    refine RQ.seg 4 (pc' := 63) (L' := [some (.ref 51), some (.int (iI 0)), some (.int (iI 1))]) (st' := [.int (iI 0), .ref 57, .int (iI 0), .ref 57]) (g1 := (HW sc (usc ar 57 (usz (usz (usz (ar 57) 0 0) 1 0) 2 0)) tx oc rl ou tl, q)) rfl ?_
    refine RQ.ialdv (z := 0) (v := 0) rfl rfl rfl (by omega) (by decide) (show (usz (usz (usz (ar 57) 0 0) 1 0) 2 0) 0 = 0 by rw [usz_n (by omega), usz_n (by omega), usz_s]) ?_
    refine RQ.seg 2 (pc' := 66) (L' := [some (.ref 51), some (.int (iI 0)), some (.int (iI 1))]) (st' := [.int (iI 1), .int (iI 0), .ref 57]) (g1 := (HW sc (usc ar 57 (usz (usz (usz (ar 57) 0 0) 1 0) 2 0)) tx oc rl ou tl, q)) rfl ?_
    refine RQ.iast (z := 0) (v := 1) (g1 := (HW sc (usc ar 57 (usz (usz (usz (usz (ar 57) 0 0) 1 0) 2 0) 0 1)) tx oc rl ou tl, q)) rfl rfl rfl rfl (by omega) (by decide) (HWa_57 (by funext j; unfold usc; cases hb : Nat.beq j 57 <;> first | rfl | (rw [Nat.eq_of_beq_eq_true hb]; rfl))) ?_
    refine RQ.seg 4 (pc' := 73) (L' := [some (.ref 51), some (.int (iI 0)), some (.int (iI 1))]) (st' := [.int (iI 1), .ref 57, .int (iI 1), .ref 57]) (g1 := (HW sc (usc ar 57 (usz (usz (usz (usz (ar 57) 0 0) 1 0) 2 0) 0 1)) tx oc rl ou tl, q)) rfl ?_
    refine RQ.ialdv (z := 1) (v := 0) rfl rfl rfl (by omega) (by decide) (show (usz (usz (usz (usz (ar 57) 0 0) 1 0) 2 0) 0 1) 1 = 0 by rw [usz_n (by omega), usz_n (by omega), usz_s]) ?_
    refine RQ.seg 2 (pc' := 76) (L' := [some (.ref 51), some (.int (iI 0)), some (.int (iI 1))]) (st' := [.int (iI 1), .int (iI 1), .ref 57]) (g1 := (HW sc (usc ar 57 (usz (usz (usz (usz (ar 57) 0 0) 1 0) 2 0) 0 1)) tx oc rl ou tl, q)) rfl ?_
    refine RQ.iast (z := 1) (v := 1) (g1 := (HW sc (usc ar 57 (usz (usz (usz (usz (usz (ar 57) 0 0) 1 0) 2 0) 0 1) 1 1)) tx oc rl ou tl, q)) rfl rfl rfl rfl (by omega) (by decide) (HWa_57 (by funext j; unfold usc; cases hb : Nat.beq j 57 <;> first | rfl | (rw [Nat.eq_of_beq_eq_true hb]; rfl))) ?_
    refine RQ.seg 6 (pc' := 45) (L' := [some (.ref 51), some (.int (iI 0)), some (.int (iI 2))]) (st' := [.int (iI (sc 304)), .int (iI 2)]) (g1 := (HW sc (usc ar 57 (usz (usz (usz (usz (usz (ar 57) 0 0) 1 0) 2 0) 0 1) 1 1)) tx oc rl ou tl, q)) rfl ?_
    refine RQ.to (L' := [some (.ref 51), some (.int (iI 0)), some (.int (iI 2))]) (st' := [.int (iI 2), .int (iI 2)]) rfl (by rw [show sc 304 = 2 from (hX.2.1.trans hk)]) ?_
    refine RQ.seg 7 (pc' := 30) (L' := [some (.ref 51), some (.int (iI 1)), some (.int (iI 2))]) (st' := [.int (iI (sc 304)), .int (iI 1)]) (g1 := (HW sc (usc ar 57 (usz (usz (usz (usz (usz (ar 57) 0 0) 1 0) 2 0) 0 1) 1 1)) tx oc rl ou tl, q)) rfl ?_
    refine RQ.to (L' := [some (.ref 51), some (.int (iI 1)), some (.int (iI 2))]) (st' := [.int (iI 2), .int (iI 1)]) rfl (by rw [show sc 304 = 2 from (hX.2.1.trans hk)]) ?_
    refine RQ.seg 9 (pc' := 45) (L' := [some (.ref 51), some (.int (iI 1)), some (.int (iI 2))]) (st' := [.int (iI (sc 304)), .int (iI 2)]) (g1 := (HW sc (usc ar 57 (usz (usz (usz (usz (usz (ar 57) 0 0) 1 0) 2 0) 0 1) 1 1)) tx oc rl ou tl, q)) rfl ?_
    refine RQ.to (L' := [some (.ref 51), some (.int (iI 1)), some (.int (iI 2))]) (st' := [.int (iI 2), .int (iI 2)]) rfl (by rw [show sc 304 = 2 from (hX.2.1.trans hk)]) ?_
    refine RQ.seg 7 (pc' := 30) (L' := [some (.ref 51), some (.int (iI 2)), some (.int (iI 2))]) (st' := [.int (iI (sc 304)), .int (iI 2)]) (g1 := (HW sc (usc ar 57 (usz (usz (usz (usz (usz (ar 57) 0 0) 1 0) 2 0) 0 1) 1 1)) tx oc rl ou tl, q)) rfl ?_
    refine RQ.to (L' := [some (.ref 51), some (.int (iI 2)), some (.int (iI 2))]) (st' := [.int (iI 2), .int (iI 2)]) rfl (by rw [show sc 304 = 2 from (hX.2.1.trans hk)]) ?_
    refine RQ.seg 1 (pc' := 89) (L' := [some (.ref 51), some (.int (iI 2)), some (.int (iI 2))]) (st' := []) (g1 := (HW sc (usc ar 57 (usz (usz (usz (usz (usz (ar 57) 0 0) 1 0) 2 0) 0 1) 1 1)) tx oc rl ou tl, q)) rfl ?_
    refine RQ.ret rfl rfl ?_
    refine ⟨rfl, _, rfl, fun j h0 h1 => ?_⟩
    rcases (show j = 0 ∨ j = 1 ∨ j = 2 by omega) with rfl | rfl | rfl
    · rw [show (usz (usz (usz (usz (usz (ar 57) 0 0) 1 0) 2 0) 0 1) 1 1) 0 = 1 by rw [usz_n (by omega), usz_s]]
      rw [if_pos (by omega), show shk nb W B P 0 = 0 + crz nb W B P 0 0 + crz nb W B P 0 1 by rw [shk, hk]; rfl, crz_ii]
      omega
    · rw [show (usz (usz (usz (usz (usz (ar 57) 0 0) 1 0) 2 0) 0 1) 1 1) 1 = 1 by rw [usz_s]]
      rw [if_pos (by omega), show shk nb W B P 1 = 0 + crz nb W B P 1 0 + crz nb W B P 1 1 by rw [shk, hk]; rfl, crz_ii, crz_sy nb W B P 1 0]
      omega
    · rw [show (usz (usz (usz (usz (usz (ar 57) 0 0) 1 0) 2 0) 0 1) 1 1) 2 = 0 by rw [usz_n (by omega), usz_n (by omega), usz_s]]
      rw [if_neg (by omega)]
theorem x_sh3 {K : PK} {d : Nat} {sc : Nat → Int} {ar : Nat → Int → Int} {tx oc : Nat} {rl : Nat → Option Nat} {ou : Nat → Int64} {tl : List PO} {q : Nat × Nat} {nw nb : Int} {W B : Int → Int → Int} (hF : FrOK nw nb W B) (hX : FrX (sc 303) (sc 304) (ar 5) (ar 6) (ar 7) (ar 8) (ar 10) (ar 11) (ar 12) nw nb W B) {P : Int → Int} (hmy : PtOK nw nb W B P) (hpl : ∀ j, 0 ≤ j → j < 3 → ar 52 j = xpl nb B P j) (hwi : ∀ j, 0 ≤ j → j < 3 → ar 53 j = xwi nb B P j) (hk : nb = 3) : CQ K (d + 2) 35 [.ref 51] (HW sc ar tx oc rl ou tl, q) (fun r g' => r = none ∧ ∃ sh, g' = (HW sc (usc ar 57 sh) tx oc rl ou tl, q) ∧ ∀ j, 0 ≤ j → j < 3 → sh j = if j < nb then shk nb W B P j else 0) := by
  have hn := hF.1
  have hm1 := hX.1
  have hm2 := hX.2.1
  refine CQ.of (own := 4) (n := 3) (ini := false) (rt := none) (cd := cd35) (by decide +kernel) rfl (by decide +kernel) rfl (Nat.le_of_ble_eq_true rfl) ?_
  refine RQ.seg 9 (pc' := 13) (L' := [some (.ref 51), some (.int (iI 0)), none]) (st' := [.int (iI 0), .int (iI 0), .ref 57]) (g1 := (HW sc ar tx oc rl ou tl, q)) rfl ?_
  refine RQ.iast (z := 0) (v := 0) (g1 := (HW sc (usc ar 57 (usz (ar 57) 0 0)) tx oc rl ou tl, q)) rfl rfl rfl rfl (by omega) (by decide) (HWa_57 rfl) ?_
  refine RQ.seg 9 (pc' := 13) (L' := [some (.ref 51), some (.int (iI 1)), none]) (st' := [.int (iI 0), .int (iI 1), .ref 57]) (g1 := (HW sc (usc ar 57 (usz (ar 57) 0 0)) tx oc rl ou tl, q)) rfl ?_
  refine RQ.iast (z := 1) (v := 0) (g1 := (HW sc (usc ar 57 (usz (usz (ar 57) 0 0) 1 0)) tx oc rl ou tl, q)) rfl rfl rfl rfl (by omega) (by decide) (HWa_57 (by funext j; unfold usc; cases hb : Nat.beq j 57 <;> first | rfl | (rw [Nat.eq_of_beq_eq_true hb]; rfl))) ?_
  refine RQ.seg 9 (pc' := 13) (L' := [some (.ref 51), some (.int (iI 2)), none]) (st' := [.int (iI 0), .int (iI 2), .ref 57]) (g1 := (HW sc (usc ar 57 (usz (usz (ar 57) 0 0) 1 0)) tx oc rl ou tl, q)) rfl ?_
  refine RQ.iast (z := 2) (v := 0) (g1 := (HW sc (usc ar 57 (usz (usz (usz (ar 57) 0 0) 1 0) 2 0)) tx oc rl ou tl, q)) rfl rfl rfl rfl (by omega) (by decide) (HWa_57 (by funext j; unfold usc; cases hb : Nat.beq j 57 <;> first | rfl | (rw [Nat.eq_of_beq_eq_true hb]; rfl))) ?_
  refine RQ.seg 11 (pc' := 30) (L' := [some (.ref 51), some (.int (iI 0)), none]) (st' := [.int (iI (sc 304)), .int (iI 0)]) (g1 := (HW sc (usc ar 57 (usz (usz (usz (ar 57) 0 0) 1 0) 2 0)) tx oc rl ou tl, q)) rfl ?_
  refine RQ.to (L' := [some (.ref 51), some (.int (iI 0)), none]) (st' := [.int (iI 3), .int (iI 0)]) rfl (by rw [show sc 304 = 3 from (hX.2.1.trans hk)]) ?_
  refine RQ.seg 9 (pc' := 45) (L' := [some (.ref 51), some (.int (iI 0)), some (.int (iI 1))]) (st' := [.int (iI (sc 304)), .int (iI 1)]) (g1 := (HW sc (usc ar 57 (usz (usz (usz (ar 57) 0 0) 1 0) 2 0)) tx oc rl ou tl, q)) rfl ?_
  refine RQ.to (L' := [some (.ref 51), some (.int (iI 0)), some (.int (iI 1))]) (st' := [.int (iI 3), .int (iI 1)]) rfl (by rw [show sc 304 = 3 from (hX.2.1.trans hk)]) ?_
  refine RQ.seg 4 (pc' := 51) (L' := [some (.ref 51), some (.int (iI 0)), some (.int (iI 1))]) (st' := [.int (iI 1), .int (iI 0), .ref 51]) (g1 := (HW sc (usc ar 57 (usz (usz (usz (ar 57) 0 0) 1 0) 2 0)) tx oc rl ou tl, q)) rfl ?_
  refine RQ.call rfl rfl (x_cross (sc := sc) (ar := usc ar 57 (usz (usz (usz (ar 57) 0 0) 1 0) 2 0)) hF hX hmy hpl hwi (a := 0) (b := 1) (by omega) (by omega) (by omega)) ?_
  have zh1 := crz_r nb W B P 0 1
  refine RQ.if1 (a := (crz nb W B P 0 1)) rfl rfl rfl (by omega) (fun (h2 : crz nb W B P 0 1 = 0) => ?_) (fun (h2 : ¬ crz nb W B P 0 1 = 0) => ?_)
  · skip
    refine RQ.seg 6 (pc' := 45) (L' := [some (.ref 51), some (.int (iI 0)), some (.int (iI 2))]) (st' := [.int (iI (sc 304)), .int (iI 2)]) (g1 := (HW sc (usc ar 57 (usz (usz (usz (ar 57) 0 0) 1 0) 2 0)) tx oc rl ou tl, q)) rfl ?_
    refine RQ.to (L' := [some (.ref 51), some (.int (iI 0)), some (.int (iI 2))]) (st' := [.int (iI 3), .int (iI 2)]) rfl (by rw [show sc 304 = 3 from (hX.2.1.trans hk)]) ?_
    refine RQ.seg 4 (pc' := 51) (L' := [some (.ref 51), some (.int (iI 0)), some (.int (iI 2))]) (st' := [.int (iI 2), .int (iI 0), .ref 51]) (g1 := (HW sc (usc ar 57 (usz (usz (usz (ar 57) 0 0) 1 0) 2 0)) tx oc rl ou tl, q)) rfl ?_
    refine RQ.call rfl rfl (x_cross (sc := sc) (ar := usc ar 57 (usz (usz (usz (ar 57) 0 0) 1 0) 2 0)) hF hX hmy hpl hwi (a := 0) (b := 2) (by omega) (by omega) (by omega)) ?_
    have zh3 := crz_r nb W B P 0 2
    refine RQ.if1 (a := (crz nb W B P 0 2)) rfl rfl rfl (by omega) (fun (h4 : crz nb W B P 0 2 = 0) => ?_) (fun (h4 : ¬ crz nb W B P 0 2 = 0) => ?_)
    · skip
      refine RQ.seg 6 (pc' := 45) (L' := [some (.ref 51), some (.int (iI 0)), some (.int (iI 3))]) (st' := [.int (iI (sc 304)), .int (iI 3)]) (g1 := (HW sc (usc ar 57 (usz (usz (usz (ar 57) 0 0) 1 0) 2 0)) tx oc rl ou tl, q)) rfl ?_
      refine RQ.to (L' := [some (.ref 51), some (.int (iI 0)), some (.int (iI 3))]) (st' := [.int (iI 3), .int (iI 3)]) rfl (by rw [show sc 304 = 3 from (hX.2.1.trans hk)]) ?_
      refine RQ.seg 7 (pc' := 30) (L' := [some (.ref 51), some (.int (iI 1)), some (.int (iI 3))]) (st' := [.int (iI (sc 304)), .int (iI 1)]) (g1 := (HW sc (usc ar 57 (usz (usz (usz (ar 57) 0 0) 1 0) 2 0)) tx oc rl ou tl, q)) rfl ?_
      refine RQ.to (L' := [some (.ref 51), some (.int (iI 1)), some (.int (iI 3))]) (st' := [.int (iI 3), .int (iI 1)]) rfl (by rw [show sc 304 = 3 from (hX.2.1.trans hk)]) ?_
      refine RQ.seg 9 (pc' := 45) (L' := [some (.ref 51), some (.int (iI 1)), some (.int (iI 2))]) (st' := [.int (iI (sc 304)), .int (iI 2)]) (g1 := (HW sc (usc ar 57 (usz (usz (usz (ar 57) 0 0) 1 0) 2 0)) tx oc rl ou tl, q)) rfl ?_
      refine RQ.to (L' := [some (.ref 51), some (.int (iI 1)), some (.int (iI 2))]) (st' := [.int (iI 3), .int (iI 2)]) rfl (by rw [show sc 304 = 3 from (hX.2.1.trans hk)]) ?_
      refine RQ.seg 4 (pc' := 51) (L' := [some (.ref 51), some (.int (iI 1)), some (.int (iI 2))]) (st' := [.int (iI 2), .int (iI 1), .ref 51]) (g1 := (HW sc (usc ar 57 (usz (usz (usz (ar 57) 0 0) 1 0) 2 0)) tx oc rl ou tl, q)) rfl ?_
      refine RQ.call rfl rfl (x_cross (sc := sc) (ar := usc ar 57 (usz (usz (usz (ar 57) 0 0) 1 0) 2 0)) hF hX hmy hpl hwi (a := 1) (b := 2) (by omega) (by omega) (by omega)) ?_
      have zh5 := crz_r nb W B P 1 2
      refine RQ.if1 (a := (crz nb W B P 1 2)) rfl rfl rfl (by omega) (fun (h6 : crz nb W B P 1 2 = 0) => ?_) (fun (h6 : ¬ crz nb W B P 1 2 = 0) => ?_)
      · skip
        refine RQ.seg 6 (pc' := 45) (L' := [some (.ref 51), some (.int (iI 1)), some (.int (iI 3))]) (st' := [.int (iI (sc 304)), .int (iI 3)]) (g1 := (HW sc (usc ar 57 (usz (usz (usz (ar 57) 0 0) 1 0) 2 0)) tx oc rl ou tl, q)) rfl ?_
        refine RQ.to (L' := [some (.ref 51), some (.int (iI 1)), some (.int (iI 3))]) (st' := [.int (iI 3), .int (iI 3)]) rfl (by rw [show sc 304 = 3 from (hX.2.1.trans hk)]) ?_
        refine RQ.seg 7 (pc' := 30) (L' := [some (.ref 51), some (.int (iI 2)), some (.int (iI 3))]) (st' := [.int (iI (sc 304)), .int (iI 2)]) (g1 := (HW sc (usc ar 57 (usz (usz (usz (ar 57) 0 0) 1 0) 2 0)) tx oc rl ou tl, q)) rfl ?_
        refine RQ.to (L' := [some (.ref 51), some (.int (iI 2)), some (.int (iI 3))]) (st' := [.int (iI 3), .int (iI 2)]) rfl (by rw [show sc 304 = 3 from (hX.2.1.trans hk)]) ?_
        refine RQ.seg 9 (pc' := 45) (L' := [some (.ref 51), some (.int (iI 2)), some (.int (iI 3))]) (st' := [.int (iI (sc 304)), .int (iI 3)]) (g1 := (HW sc (usc ar 57 (usz (usz (usz (ar 57) 0 0) 1 0) 2 0)) tx oc rl ou tl, q)) rfl ?_
        refine RQ.to (L' := [some (.ref 51), some (.int (iI 2)), some (.int (iI 3))]) (st' := [.int (iI 3), .int (iI 3)]) rfl (by rw [show sc 304 = 3 from (hX.2.1.trans hk)]) ?_
        refine RQ.seg 7 (pc' := 30) (L' := [some (.ref 51), some (.int (iI 3)), some (.int (iI 3))]) (st' := [.int (iI (sc 304)), .int (iI 3)]) (g1 := (HW sc (usc ar 57 (usz (usz (usz (ar 57) 0 0) 1 0) 2 0)) tx oc rl ou tl, q)) rfl ?_
        refine RQ.to (L' := [some (.ref 51), some (.int (iI 3)), some (.int (iI 3))]) (st' := [.int (iI 3), .int (iI 3)]) rfl (by rw [show sc 304 = 3 from (hX.2.1.trans hk)]) ?_
        refine RQ.seg 1 (pc' := 89) (L' := [some (.ref 51), some (.int (iI 3)), some (.int (iI 3))]) (st' := []) (g1 := (HW sc (usc ar 57 (usz (usz (usz (ar 57) 0 0) 1 0) 2 0)) tx oc rl ou tl, q)) rfl ?_
        refine RQ.ret rfl rfl ?_
        refine ⟨rfl, _, rfl, fun j h0 h1 => ?_⟩
        rcases (show j = 0 ∨ j = 1 ∨ j = 2 by omega) with rfl | rfl | rfl
        · rw [show (usz (usz (usz (ar 57) 0 0) 1 0) 2 0) 0 = 0 by rw [usz_n (by omega), usz_n (by omega), usz_s]]
          rw [if_pos (by omega), show shk nb W B P 0 = 0 + crz nb W B P 0 0 + crz nb W B P 0 1 + crz nb W B P 0 2 by rw [shk, hk]; rfl, crz_ii]
          omega
        · rw [show (usz (usz (usz (ar 57) 0 0) 1 0) 2 0) 1 = 0 by rw [usz_n (by omega), usz_s]]
          rw [if_pos (by omega), show shk nb W B P 1 = 0 + crz nb W B P 1 0 + crz nb W B P 1 1 + crz nb W B P 1 2 by rw [shk, hk]; rfl, crz_ii, crz_sy nb W B P 1 0]
          omega
        · rw [show (usz (usz (usz (ar 57) 0 0) 1 0) 2 0) 2 = 0 by rw [usz_s]]
          rw [if_pos (by omega), show shk nb W B P 2 = 0 + crz nb W B P 2 0 + crz nb W B P 2 1 + crz nb W B P 2 2 by rw [shk, hk]; rfl, crz_ii, crz_sy nb W B P 2 0, crz_sy nb W B P 2 1]
          omega
      · skip
        refine RQ.seg 4 (pc' := 63) (L' := [some (.ref 51), some (.int (iI 1)), some (.int (iI 2))]) (st' := [.int (iI 1), .ref 57, .int (iI 1), .ref 57]) (g1 := (HW sc (usc ar 57 (usz (usz (usz (ar 57) 0 0) 1 0) 2 0)) tx oc rl ou tl, q)) rfl ?_
        refine RQ.ialdv (z := 1) (v := 0) rfl rfl rfl (by omega) (by decide) (show (usz (usz (usz (ar 57) 0 0) 1 0) 2 0) 1 = 0 by rw [usz_n (by omega), usz_s]) ?_
        refine RQ.seg 2 (pc' := 66) (L' := [some (.ref 51), some (.int (iI 1)), some (.int (iI 2))]) (st' := [.int (iI 1), .int (iI 1), .ref 57]) (g1 := (HW sc (usc ar 57 (usz (usz (usz (ar 57) 0 0) 1 0) 2 0)) tx oc rl ou tl, q)) rfl ?_
        refine RQ.iast (z := 1) (v := 1) (g1 := (HW sc (usc ar 57 (usz (usz (usz (usz (ar 57) 0 0) 1 0) 2 0) 1 1)) tx oc rl ou tl, q)) rfl rfl rfl rfl (by omega) (by decide) (HWa_57 (by funext j; unfold usc; cases hb : Nat.beq j 57 <;> first | rfl | (rw [Nat.eq_of_beq_eq_true hb]; rfl))) ?_
        refine RQ.seg 4 (pc' := 73) (L' := [some (.ref 51), some (.int (iI 1)), some (.int (iI 2))]) (st' := [.int (iI 2), .ref 57, .int (iI 2), .ref 57]) (g1 := (HW sc (usc ar 57 (usz (usz (usz (usz (ar 57) 0 0) 1 0) 2 0) 1 1)) tx oc rl ou tl, q)) rfl ?_
        refine RQ.ialdv (z := 2) (v := 0) rfl rfl rfl (by omega) (by decide) (show (usz (usz (usz (usz (ar 57) 0 0) 1 0) 2 0) 1 1) 2 = 0 by rw [usz_n (by omega), usz_s]) ?_
        refine RQ.seg 2 (pc' := 76) (L' := [some (.ref 51), some (.int (iI 1)), some (.int (iI 2))]) (st' := [.int (iI 1), .int (iI 2), .ref 57]) (g1 := (HW sc (usc ar 57 (usz (usz (usz (usz (ar 57) 0 0) 1 0) 2 0) 1 1)) tx oc rl ou tl, q)) rfl ?_
        refine RQ.iast (z := 2) (v := 1) (g1 := (HW sc (usc ar 57 (usz (usz (usz (usz (usz (ar 57) 0 0) 1 0) 2 0) 1 1) 2 1)) tx oc rl ou tl, q)) rfl rfl rfl rfl (by omega) (by decide) (HWa_57 (by funext j; unfold usc; cases hb : Nat.beq j 57 <;> first | rfl | (rw [Nat.eq_of_beq_eq_true hb]; rfl))) ?_
        refine RQ.seg 6 (pc' := 45) (L' := [some (.ref 51), some (.int (iI 1)), some (.int (iI 3))]) (st' := [.int (iI (sc 304)), .int (iI 3)]) (g1 := (HW sc (usc ar 57 (usz (usz (usz (usz (usz (ar 57) 0 0) 1 0) 2 0) 1 1) 2 1)) tx oc rl ou tl, q)) rfl ?_
        refine RQ.to (L' := [some (.ref 51), some (.int (iI 1)), some (.int (iI 3))]) (st' := [.int (iI 3), .int (iI 3)]) rfl (by rw [show sc 304 = 3 from (hX.2.1.trans hk)]) ?_
        refine RQ.seg 7 (pc' := 30) (L' := [some (.ref 51), some (.int (iI 2)), some (.int (iI 3))]) (st' := [.int (iI (sc 304)), .int (iI 2)]) (g1 := (HW sc (usc ar 57 (usz (usz (usz (usz (usz (ar 57) 0 0) 1 0) 2 0) 1 1) 2 1)) tx oc rl ou tl, q)) rfl ?_
        refine RQ.to (L' := [some (.ref 51), some (.int (iI 2)), some (.int (iI 3))]) (st' := [.int (iI 3), .int (iI 2)]) rfl (by rw [show sc 304 = 3 from (hX.2.1.trans hk)]) ?_
        refine RQ.seg 9 (pc' := 45) (L' := [some (.ref 51), some (.int (iI 2)), some (.int (iI 3))]) (st' := [.int (iI (sc 304)), .int (iI 3)]) (g1 := (HW sc (usc ar 57 (usz (usz (usz (usz (usz (ar 57) 0 0) 1 0) 2 0) 1 1) 2 1)) tx oc rl ou tl, q)) rfl ?_
        refine RQ.to (L' := [some (.ref 51), some (.int (iI 2)), some (.int (iI 3))]) (st' := [.int (iI 3), .int (iI 3)]) rfl (by rw [show sc 304 = 3 from (hX.2.1.trans hk)]) ?_
        refine RQ.seg 7 (pc' := 30) (L' := [some (.ref 51), some (.int (iI 3)), some (.int (iI 3))]) (st' := [.int (iI (sc 304)), .int (iI 3)]) (g1 := (HW sc (usc ar 57 (usz (usz (usz (usz (usz (ar 57) 0 0) 1 0) 2 0) 1 1) 2 1)) tx oc rl ou tl, q)) rfl ?_
        refine RQ.to (L' := [some (.ref 51), some (.int (iI 3)), some (.int (iI 3))]) (st' := [.int (iI 3), .int (iI 3)]) rfl (by rw [show sc 304 = 3 from (hX.2.1.trans hk)]) ?_
        refine RQ.seg 1 (pc' := 89) (L' := [some (.ref 51), some (.int (iI 3)), some (.int (iI 3))]) (st' := []) (g1 := (HW sc (usc ar 57 (usz (usz (usz (usz (usz (ar 57) 0 0) 1 0) 2 0) 1 1) 2 1)) tx oc rl ou tl, q)) rfl ?_
        refine RQ.ret rfl rfl ?_
        refine ⟨rfl, _, rfl, fun j h0 h1 => ?_⟩
        rcases (show j = 0 ∨ j = 1 ∨ j = 2 by omega) with rfl | rfl | rfl
        · rw [show (usz (usz (usz (usz (usz (ar 57) 0 0) 1 0) 2 0) 1 1) 2 1) 0 = 0 by rw [usz_n (by omega), usz_n (by omega), usz_n (by omega), usz_n (by omega), usz_s]]
          rw [if_pos (by omega), show shk nb W B P 0 = 0 + crz nb W B P 0 0 + crz nb W B P 0 1 + crz nb W B P 0 2 by rw [shk, hk]; rfl, crz_ii]
          omega
        · rw [show (usz (usz (usz (usz (usz (ar 57) 0 0) 1 0) 2 0) 1 1) 2 1) 1 = 1 by rw [usz_n (by omega), usz_s]]
          rw [if_pos (by omega), show shk nb W B P 1 = 0 + crz nb W B P 1 0 + crz nb W B P 1 1 + crz nb W B P 1 2 by rw [shk, hk]; rfl, crz_ii, crz_sy nb W B P 1 0]
          omega
        · rw [show (usz (usz (usz (usz (usz (ar 57) 0 0) 1 0) 2 0) 1 1) 2 1) 2 = 1 by rw [usz_s]]
          rw [if_pos (by omega), show shk nb W B P 2 = 0 + crz nb W B P 2 0 + crz nb W B P 2 1 + crz nb W B P 2 2 by rw [shk, hk]; rfl, crz_ii, crz_sy nb W B P 2 0, crz_sy nb W B P 2 1]
          omega
    · skip
      refine RQ.seg 4 (pc' := 63) (L' := [some (.ref 51), some (.int (iI 0)), some (.int (iI 2))]) (st' := [.int (iI 0), .ref 57, .int (iI 0), .ref 57]) (g1 := (HW sc (usc ar 57 (usz (usz (usz (ar 57) 0 0) 1 0) 2 0)) tx oc rl ou tl, q)) rfl ?_
      refine RQ.ialdv (z := 0) (v := 0) rfl rfl rfl (by omega) (by decide) (show (usz (usz (usz (ar 57) 0 0) 1 0) 2 0) 0 = 0 by rw [usz_n (by omega), usz_n (by omega), usz_s]) ?_
      refine RQ.seg 2 (pc' := 66) (L' := [some (.ref 51), some (.int (iI 0)), some (.int (iI 2))]) (st' := [.int (iI 1), .int (iI 0), .ref 57]) (g1 := (HW sc (usc ar 57 (usz (usz (usz (ar 57) 0 0) 1 0) 2 0)) tx oc rl ou tl, q)) rfl ?_
      refine RQ.iast (z := 0) (v := 1) (g1 := (HW sc (usc ar 57 (usz (usz (usz (usz (ar 57) 0 0) 1 0) 2 0) 0 1)) tx oc rl ou tl, q)) rfl rfl rfl rfl (by omega) (by decide) (HWa_57 (by funext j; unfold usc; cases hb : Nat.beq j 57 <;> first | rfl | (rw [Nat.eq_of_beq_eq_true hb]; rfl))) ?_
      refine RQ.seg 4 (pc' := 73) (L' := [some (.ref 51), some (.int (iI 0)), some (.int (iI 2))]) (st' := [.int (iI 2), .ref 57, .int (iI 2), .ref 57]) (g1 := (HW sc (usc ar 57 (usz (usz (usz (usz (ar 57) 0 0) 1 0) 2 0) 0 1)) tx oc rl ou tl, q)) rfl ?_
      refine RQ.ialdv (z := 2) (v := 0) rfl rfl rfl (by omega) (by decide) (show (usz (usz (usz (usz (ar 57) 0 0) 1 0) 2 0) 0 1) 2 = 0 by rw [usz_n (by omega), usz_s]) ?_
      refine RQ.seg 2 (pc' := 76) (L' := [some (.ref 51), some (.int (iI 0)), some (.int (iI 2))]) (st' := [.int (iI 1), .int (iI 2), .ref 57]) (g1 := (HW sc (usc ar 57 (usz (usz (usz (usz (ar 57) 0 0) 1 0) 2 0) 0 1)) tx oc rl ou tl, q)) rfl ?_
      refine RQ.iast (z := 2) (v := 1) (g1 := (HW sc (usc ar 57 (usz (usz (usz (usz (usz (ar 57) 0 0) 1 0) 2 0) 0 1) 2 1)) tx oc rl ou tl, q)) rfl rfl rfl rfl (by omega) (by decide) (HWa_57 (by funext j; unfold usc; cases hb : Nat.beq j 57 <;> first | rfl | (rw [Nat.eq_of_beq_eq_true hb]; rfl))) ?_
      refine RQ.seg 6 (pc' := 45) (L' := [some (.ref 51), some (.int (iI 0)), some (.int (iI 3))]) (st' := [.int (iI (sc 304)), .int (iI 3)]) (g1 := (HW sc (usc ar 57 (usz (usz (usz (usz (usz (ar 57) 0 0) 1 0) 2 0) 0 1) 2 1)) tx oc rl ou tl, q)) rfl ?_
      refine RQ.to (L' := [some (.ref 51), some (.int (iI 0)), some (.int (iI 3))]) (st' := [.int (iI 3), .int (iI 3)]) rfl (by rw [show sc 304 = 3 from (hX.2.1.trans hk)]) ?_
      refine RQ.seg 7 (pc' := 30) (L' := [some (.ref 51), some (.int (iI 1)), some (.int (iI 3))]) (st' := [.int (iI (sc 304)), .int (iI 1)]) (g1 := (HW sc (usc ar 57 (usz (usz (usz (usz (usz (ar 57) 0 0) 1 0) 2 0) 0 1) 2 1)) tx oc rl ou tl, q)) rfl ?_
      refine RQ.to (L' := [some (.ref 51), some (.int (iI 1)), some (.int (iI 3))]) (st' := [.int (iI 3), .int (iI 1)]) rfl (by rw [show sc 304 = 3 from (hX.2.1.trans hk)]) ?_
      refine RQ.seg 9 (pc' := 45) (L' := [some (.ref 51), some (.int (iI 1)), some (.int (iI 2))]) (st' := [.int (iI (sc 304)), .int (iI 2)]) (g1 := (HW sc (usc ar 57 (usz (usz (usz (usz (usz (ar 57) 0 0) 1 0) 2 0) 0 1) 2 1)) tx oc rl ou tl, q)) rfl ?_
      refine RQ.to (L' := [some (.ref 51), some (.int (iI 1)), some (.int (iI 2))]) (st' := [.int (iI 3), .int (iI 2)]) rfl (by rw [show sc 304 = 3 from (hX.2.1.trans hk)]) ?_
      refine RQ.seg 4 (pc' := 51) (L' := [some (.ref 51), some (.int (iI 1)), some (.int (iI 2))]) (st' := [.int (iI 2), .int (iI 1), .ref 51]) (g1 := (HW sc (usc ar 57 (usz (usz (usz (usz (usz (ar 57) 0 0) 1 0) 2 0) 0 1) 2 1)) tx oc rl ou tl, q)) rfl ?_
      refine RQ.call rfl rfl (x_cross (sc := sc) (ar := usc ar 57 (usz (usz (usz (usz (usz (ar 57) 0 0) 1 0) 2 0) 0 1) 2 1)) hF hX hmy hpl hwi (a := 1) (b := 2) (by omega) (by omega) (by omega)) ?_
      have zh7 := crz_r nb W B P 1 2
      refine RQ.if1 (a := (crz nb W B P 1 2)) rfl rfl rfl (by omega) (fun (h8 : crz nb W B P 1 2 = 0) => ?_) (fun (h8 : ¬ crz nb W B P 1 2 = 0) => ?_)
      · skip
        refine RQ.seg 6 (pc' := 45) (L' := [some (.ref 51), some (.int (iI 1)), some (.int (iI 3))]) (st' := [.int (iI (sc 304)), .int (iI 3)]) (g1 := (HW sc (usc ar 57 (usz (usz (usz (usz (usz (ar 57) 0 0) 1 0) 2 0) 0 1) 2 1)) tx oc rl ou tl, q)) rfl ?_
        refine RQ.to (L' := [some (.ref 51), some (.int (iI 1)), some (.int (iI 3))]) (st' := [.int (iI 3), .int (iI 3)]) rfl (by rw [show sc 304 = 3 from (hX.2.1.trans hk)]) ?_
        refine RQ.seg 7 (pc' := 30) (L' := [some (.ref 51), some (.int (iI 2)), some (.int (iI 3))]) (st' := [.int (iI (sc 304)), .int (iI 2)]) (g1 := (HW sc (usc ar 57 (usz (usz (usz (usz (usz (ar 57) 0 0) 1 0) 2 0) 0 1) 2 1)) tx oc rl ou tl, q)) rfl ?_
        refine RQ.to (L' := [some (.ref 51), some (.int (iI 2)), some (.int (iI 3))]) (st' := [.int (iI 3), .int (iI 2)]) rfl (by rw [show sc 304 = 3 from (hX.2.1.trans hk)]) ?_
        refine RQ.seg 9 (pc' := 45) (L' := [some (.ref 51), some (.int (iI 2)), some (.int (iI 3))]) (st' := [.int (iI (sc 304)), .int (iI 3)]) (g1 := (HW sc (usc ar 57 (usz (usz (usz (usz (usz (ar 57) 0 0) 1 0) 2 0) 0 1) 2 1)) tx oc rl ou tl, q)) rfl ?_
        refine RQ.to (L' := [some (.ref 51), some (.int (iI 2)), some (.int (iI 3))]) (st' := [.int (iI 3), .int (iI 3)]) rfl (by rw [show sc 304 = 3 from (hX.2.1.trans hk)]) ?_
        refine RQ.seg 7 (pc' := 30) (L' := [some (.ref 51), some (.int (iI 3)), some (.int (iI 3))]) (st' := [.int (iI (sc 304)), .int (iI 3)]) (g1 := (HW sc (usc ar 57 (usz (usz (usz (usz (usz (ar 57) 0 0) 1 0) 2 0) 0 1) 2 1)) tx oc rl ou tl, q)) rfl ?_
        refine RQ.to (L' := [some (.ref 51), some (.int (iI 3)), some (.int (iI 3))]) (st' := [.int (iI 3), .int (iI 3)]) rfl (by rw [show sc 304 = 3 from (hX.2.1.trans hk)]) ?_
        refine RQ.seg 1 (pc' := 89) (L' := [some (.ref 51), some (.int (iI 3)), some (.int (iI 3))]) (st' := []) (g1 := (HW sc (usc ar 57 (usz (usz (usz (usz (usz (ar 57) 0 0) 1 0) 2 0) 0 1) 2 1)) tx oc rl ou tl, q)) rfl ?_
        refine RQ.ret rfl rfl ?_
        refine ⟨rfl, _, rfl, fun j h0 h1 => ?_⟩
        rcases (show j = 0 ∨ j = 1 ∨ j = 2 by omega) with rfl | rfl | rfl
        · rw [show (usz (usz (usz (usz (usz (ar 57) 0 0) 1 0) 2 0) 0 1) 2 1) 0 = 1 by rw [usz_n (by omega), usz_s]]
          rw [if_pos (by omega), show shk nb W B P 0 = 0 + crz nb W B P 0 0 + crz nb W B P 0 1 + crz nb W B P 0 2 by rw [shk, hk]; rfl, crz_ii]
          omega
        · rw [show (usz (usz (usz (usz (usz (ar 57) 0 0) 1 0) 2 0) 0 1) 2 1) 1 = 0 by rw [usz_n (by omega), usz_n (by omega), usz_n (by omega), usz_s]]
          rw [if_pos (by omega), show shk nb W B P 1 = 0 + crz nb W B P 1 0 + crz nb W B P 1 1 + crz nb W B P 1 2 by rw [shk, hk]; rfl, crz_ii, crz_sy nb W B P 1 0]
          omega
        · rw [show (usz (usz (usz (usz (usz (ar 57) 0 0) 1 0) 2 0) 0 1) 2 1) 2 = 1 by rw [usz_s]]
          rw [if_pos (by omega), show shk nb W B P 2 = 0 + crz nb W B P 2 0 + crz nb W B P 2 1 + crz nb W B P 2 2 by rw [shk, hk]; rfl, crz_ii, crz_sy nb W B P 2 0, crz_sy nb W B P 2 1]
          omega
      · skip
        refine RQ.seg 4 (pc' := 63) (L' := [some (.ref 51), some (.int (iI 1)), some (.int (iI 2))]) (st' := [.int (iI 1), .ref 57, .int (iI 1), .ref 57]) (g1 := (HW sc (usc ar 57 (usz (usz (usz (usz (usz (ar 57) 0 0) 1 0) 2 0) 0 1) 2 1)) tx oc rl ou tl, q)) rfl ?_
        refine RQ.ialdv (z := 1) (v := 0) rfl rfl rfl (by omega) (by decide) (show (usz (usz (usz (usz (usz (ar 57) 0 0) 1 0) 2 0) 0 1) 2 1) 1 = 0 by rw [usz_n (by omega), usz_n (by omega), usz_n (by omega), usz_s]) ?_
        refine RQ.seg 2 (pc' := 66) (L' := [some (.ref 51), some (.int (iI 1)), some (.int (iI 2))]) (st' := [.int (iI 1), .int (iI 1), .ref 57]) (g1 := (HW sc (usc ar 57 (usz (usz (usz (usz (usz (ar 57) 0 0) 1 0) 2 0) 0 1) 2 1)) tx oc rl ou tl, q)) rfl ?_
        refine RQ.iast (z := 1) (v := 1) (g1 := (HW sc (usc ar 57 (usz (usz (usz (usz (usz (usz (ar 57) 0 0) 1 0) 2 0) 0 1) 2 1) 1 1)) tx oc rl ou tl, q)) rfl rfl rfl rfl (by omega) (by decide) (HWa_57 (by funext j; unfold usc; cases hb : Nat.beq j 57 <;> first | rfl | (rw [Nat.eq_of_beq_eq_true hb]; rfl))) ?_
        refine RQ.seg 4 (pc' := 73) (L' := [some (.ref 51), some (.int (iI 1)), some (.int (iI 2))]) (st' := [.int (iI 2), .ref 57, .int (iI 2), .ref 57]) (g1 := (HW sc (usc ar 57 (usz (usz (usz (usz (usz (usz (ar 57) 0 0) 1 0) 2 0) 0 1) 2 1) 1 1)) tx oc rl ou tl, q)) rfl ?_
        refine RQ.ialdv (z := 2) (v := 1) rfl rfl rfl (by omega) (by decide) (show (usz (usz (usz (usz (usz (usz (ar 57) 0 0) 1 0) 2 0) 0 1) 2 1) 1 1) 2 = 1 by rw [usz_n (by omega), usz_s]) ?_
        refine RQ.seg 2 (pc' := 76) (L' := [some (.ref 51), some (.int (iI 1)), some (.int (iI 2))]) (st' := [.int (iI 2), .int (iI 2), .ref 57]) (g1 := (HW sc (usc ar 57 (usz (usz (usz (usz (usz (usz (ar 57) 0 0) 1 0) 2 0) 0 1) 2 1) 1 1)) tx oc rl ou tl, q)) rfl ?_
        refine RQ.iast (z := 2) (v := 2) (g1 := (HW sc (usc ar 57 (usz (usz (usz (usz (usz (usz (usz (ar 57) 0 0) 1 0) 2 0) 0 1) 2 1) 1 1) 2 2)) tx oc rl ou tl, q)) rfl rfl rfl rfl (by omega) (by decide) (HWa_57 (by funext j; unfold usc; cases hb : Nat.beq j 57 <;> first | rfl | (rw [Nat.eq_of_beq_eq_true hb]; rfl))) ?_
        refine RQ.seg 6 (pc' := 45) (L' := [some (.ref 51), some (.int (iI 1)), some (.int (iI 3))]) (st' := [.int (iI (sc 304)), .int (iI 3)]) (g1 := (HW sc (usc ar 57 (usz (usz (usz (usz (usz (usz (usz (ar 57) 0 0) 1 0) 2 0) 0 1) 2 1) 1 1) 2 2)) tx oc rl ou tl, q)) rfl ?_
        refine RQ.to (L' := [some (.ref 51), some (.int (iI 1)), some (.int (iI 3))]) (st' := [.int (iI 3), .int (iI 3)]) rfl (by rw [show sc 304 = 3 from (hX.2.1.trans hk)]) ?_
        refine RQ.seg 7 (pc' := 30) (L' := [some (.ref 51), some (.int (iI 2)), some (.int (iI 3))]) (st' := [.int (iI (sc 304)), .int (iI 2)]) (g1 := (HW sc (usc ar 57 (usz (usz (usz (usz (usz (usz (usz (ar 57) 0 0) 1 0) 2 0) 0 1) 2 1) 1 1) 2 2)) tx oc rl ou tl, q)) rfl ?_
        refine RQ.to (L' := [some (.ref 51), some (.int (iI 2)), some (.int (iI 3))]) (st' := [.int (iI 3), .int (iI 2)]) rfl (by rw [show sc 304 = 3 from (hX.2.1.trans hk)]) ?_
        refine RQ.seg 9 (pc' := 45) (L' := [some (.ref 51), some (.int (iI 2)), some (.int (iI 3))]) (st' := [.int (iI (sc 304)), .int (iI 3)]) (g1 := (HW sc (usc ar 57 (usz (usz (usz (usz (usz (usz (usz (ar 57) 0 0) 1 0) 2 0) 0 1) 2 1) 1 1) 2 2)) tx oc rl ou tl, q)) rfl ?_
        refine RQ.to (L' := [some (.ref 51), some (.int (iI 2)), some (.int (iI 3))]) (st' := [.int (iI 3), .int (iI 3)]) rfl (by rw [show sc 304 = 3 from (hX.2.1.trans hk)]) ?_
        refine RQ.seg 7 (pc' := 30) (L' := [some (.ref 51), some (.int (iI 3)), some (.int (iI 3))]) (st' := [.int (iI (sc 304)), .int (iI 3)]) (g1 := (HW sc (usc ar 57 (usz (usz (usz (usz (usz (usz (usz (ar 57) 0 0) 1 0) 2 0) 0 1) 2 1) 1 1) 2 2)) tx oc rl ou tl, q)) rfl ?_
        refine RQ.to (L' := [some (.ref 51), some (.int (iI 3)), some (.int (iI 3))]) (st' := [.int (iI 3), .int (iI 3)]) rfl (by rw [show sc 304 = 3 from (hX.2.1.trans hk)]) ?_
        refine RQ.seg 1 (pc' := 89) (L' := [some (.ref 51), some (.int (iI 3)), some (.int (iI 3))]) (st' := []) (g1 := (HW sc (usc ar 57 (usz (usz (usz (usz (usz (usz (usz (ar 57) 0 0) 1 0) 2 0) 0 1) 2 1) 1 1) 2 2)) tx oc rl ou tl, q)) rfl ?_
        refine RQ.ret rfl rfl ?_
        refine ⟨rfl, _, rfl, fun j h0 h1 => ?_⟩
        rcases (show j = 0 ∨ j = 1 ∨ j = 2 by omega) with rfl | rfl | rfl
        · rw [show (usz (usz (usz (usz (usz (usz (usz (ar 57) 0 0) 1 0) 2 0) 0 1) 2 1) 1 1) 2 2) 0 = 1 by rw [usz_n (by omega), usz_n (by omega), usz_n (by omega), usz_s]]
          rw [if_pos (by omega), show shk nb W B P 0 = 0 + crz nb W B P 0 0 + crz nb W B P 0 1 + crz nb W B P 0 2 by rw [shk, hk]; rfl, crz_ii]
          omega
        · rw [show (usz (usz (usz (usz (usz (usz (usz (ar 57) 0 0) 1 0) 2 0) 0 1) 2 1) 1 1) 2 2) 1 = 1 by rw [usz_n (by omega), usz_s]]
          rw [if_pos (by omega), show shk nb W B P 1 = 0 + crz nb W B P 1 0 + crz nb W B P 1 1 + crz nb W B P 1 2 by rw [shk, hk]; rfl, crz_ii, crz_sy nb W B P 1 0]
          omega
        · rw [show (usz (usz (usz (usz (usz (usz (usz (ar 57) 0 0) 1 0) 2 0) 0 1) 2 1) 1 1) 2 2) 2 = 2 by rw [usz_s]]
          rw [if_pos (by omega), show shk nb W B P 2 = 0 + crz nb W B P 2 0 + crz nb W B P 2 1 + crz nb W B P 2 2 by rw [shk, hk]; rfl, crz_ii, crz_sy nb W B P 2 0, crz_sy nb W B P 2 1]
          omega
  · skip
    refine RQ.seg 4 (pc' := 63) (L' := [some (.ref 51), some (.int (iI 0)), some (.int (iI 1))]) (st' := [.int (iI 0), .ref 57, .int (iI 0), .ref 57]) (g1 := (HW sc (usc ar 57 (usz (usz (usz (ar 57) 0 0) 1 0) 2 0)) tx oc rl ou tl, q)) rfl ?_
    refine RQ.ialdv (z := 0) (v := 0) rfl rfl rfl (by omega) (by decide) (show (usz (usz (usz (ar 57) 0 0) 1 0) 2 0) 0 = 0 by rw [usz_n (by omega), usz_n (by omega), usz_s]) ?_
    refine RQ.seg 2 (pc' := 66) (L' := [some (.ref 51), some (.int (iI 0)), some (.int (iI 1))]) (st' := [.int (iI 1), .int (iI 0), .ref 57]) (g1 := (HW sc (usc ar 57 (usz (usz (usz (ar 57) 0 0) 1 0) 2 0)) tx oc rl ou tl, q)) rfl ?_
    refine RQ.iast (z := 0) (v := 1) (g1 := (HW sc (usc ar 57 (usz (usz (usz (usz (ar 57) 0 0) 1 0) 2 0) 0 1)) tx oc rl ou tl, q)) rfl rfl rfl rfl (by omega) (by decide) (HWa_57 (by funext j; unfold usc; cases hb : Nat.beq j 57 <;> first | rfl | (rw [Nat.eq_of_beq_eq_true hb]; rfl))) ?_
    refine RQ.seg 4 (pc' := 73) (L' := [some (.ref 51), some (.int (iI 0)), some (.int (iI 1))]) (st' := [.int (iI 1), .ref 57, .int (iI 1), .ref 57]) (g1 := (HW sc (usc ar 57 (usz (usz (usz (usz (ar 57) 0 0) 1 0) 2 0) 0 1)) tx oc rl ou tl, q)) rfl ?_
    refine RQ.ialdv (z := 1) (v := 0) rfl rfl rfl (by omega) (by decide) (show (usz (usz (usz (usz (ar 57) 0 0) 1 0) 2 0) 0 1) 1 = 0 by rw [usz_n (by omega), usz_n (by omega), usz_s]) ?_
    refine RQ.seg 2 (pc' := 76) (L' := [some (.ref 51), some (.int (iI 0)), some (.int (iI 1))]) (st' := [.int (iI 1), .int (iI 1), .ref 57]) (g1 := (HW sc (usc ar 57 (usz (usz (usz (usz (ar 57) 0 0) 1 0) 2 0) 0 1)) tx oc rl ou tl, q)) rfl ?_
    refine RQ.iast (z := 1) (v := 1) (g1 := (HW sc (usc ar 57 (usz (usz (usz (usz (usz (ar 57) 0 0) 1 0) 2 0) 0 1) 1 1)) tx oc rl ou tl, q)) rfl rfl rfl rfl (by omega) (by decide) (HWa_57 (by funext j; unfold usc; cases hb : Nat.beq j 57 <;> first | rfl | (rw [Nat.eq_of_beq_eq_true hb]; rfl))) ?_
    refine RQ.seg 6 (pc' := 45) (L' := [some (.ref 51), some (.int (iI 0)), some (.int (iI 2))]) (st' := [.int (iI (sc 304)), .int (iI 2)]) (g1 := (HW sc (usc ar 57 (usz (usz (usz (usz (usz (ar 57) 0 0) 1 0) 2 0) 0 1) 1 1)) tx oc rl ou tl, q)) rfl ?_
    refine RQ.to (L' := [some (.ref 51), some (.int (iI 0)), some (.int (iI 2))]) (st' := [.int (iI 3), .int (iI 2)]) rfl (by rw [show sc 304 = 3 from (hX.2.1.trans hk)]) ?_
    refine RQ.seg 4 (pc' := 51) (L' := [some (.ref 51), some (.int (iI 0)), some (.int (iI 2))]) (st' := [.int (iI 2), .int (iI 0), .ref 51]) (g1 := (HW sc (usc ar 57 (usz (usz (usz (usz (usz (ar 57) 0 0) 1 0) 2 0) 0 1) 1 1)) tx oc rl ou tl, q)) rfl ?_
    refine RQ.call rfl rfl (x_cross (sc := sc) (ar := usc ar 57 (usz (usz (usz (usz (usz (ar 57) 0 0) 1 0) 2 0) 0 1) 1 1)) hF hX hmy hpl hwi (a := 0) (b := 2) (by omega) (by omega) (by omega)) ?_
    have zh9 := crz_r nb W B P 0 2
    refine RQ.if1 (a := (crz nb W B P 0 2)) rfl rfl rfl (by omega) (fun (h10 : crz nb W B P 0 2 = 0) => ?_) (fun (h10 : ¬ crz nb W B P 0 2 = 0) => ?_)
    · skip
      refine RQ.seg 6 (pc' := 45) (L' := [some (.ref 51), some (.int (iI 0)), some (.int (iI 3))]) (st' := [.int (iI (sc 304)), .int (iI 3)]) (g1 := (HW sc (usc ar 57 (usz (usz (usz (usz (usz (ar 57) 0 0) 1 0) 2 0) 0 1) 1 1)) tx oc rl ou tl, q)) rfl ?_
      refine RQ.to (L' := [some (.ref 51), some (.int (iI 0)), some (.int (iI 3))]) (st' := [.int (iI 3), .int (iI 3)]) rfl (by rw [show sc 304 = 3 from (hX.2.1.trans hk)]) ?_
      refine RQ.seg 7 (pc' := 30) (L' := [some (.ref 51), some (.int (iI 1)), some (.int (iI 3))]) (st' := [.int (iI (sc 304)), .int (iI 1)]) (g1 := (HW sc (usc ar 57 (usz (usz (usz (usz (usz (ar 57) 0 0) 1 0) 2 0) 0 1) 1 1)) tx oc rl ou tl, q)) rfl ?_
      refine RQ.to (L' := [some (.ref 51), some (.int (iI 1)), some (.int (iI 3))]) (st' := [.int (iI 3), .int (iI 1)]) rfl (by rw [show sc 304 = 3 from (hX.2.1.trans hk)]) ?_
      refine RQ.seg 9 (pc' := 45) (L' := [some (.ref 51), some (.int (iI 1)), some (.int (iI 2))]) (st' := [.int (iI (sc 304)), .int (iI 2)]) (g1 := (HW sc (usc ar 57 (usz (usz (usz (usz (usz (ar 57) 0 0) 1 0) 2 0) 0 1) 1 1)) tx oc rl ou tl, q)) rfl ?_
      refine RQ.to (L' := [some (.ref 51), some (.int (iI 1)), some (.int (iI 2))]) (st' := [.int (iI 3), .int (iI 2)]) rfl (by rw [show sc 304 = 3 from (hX.2.1.trans hk)]) ?_
      refine RQ.seg 4 (pc' := 51) (L' := [some (.ref 51), some (.int (iI 1)), some (.int (iI 2))]) (st' := [.int (iI 2), .int (iI 1), .ref 51]) (g1 := (HW sc (usc ar 57 (usz (usz (usz (usz (usz (ar 57) 0 0) 1 0) 2 0) 0 1) 1 1)) tx oc rl ou tl, q)) rfl ?_
      refine RQ.call rfl rfl (x_cross (sc := sc) (ar := usc ar 57 (usz (usz (usz (usz (usz (ar 57) 0 0) 1 0) 2 0) 0 1) 1 1)) hF hX hmy hpl hwi (a := 1) (b := 2) (by omega) (by omega) (by omega)) ?_
      have zh11 := crz_r nb W B P 1 2
      refine RQ.if1 (a := (crz nb W B P 1 2)) rfl rfl rfl (by omega) (fun (h12 : crz nb W B P 1 2 = 0) => ?_) (fun (h12 : ¬ crz nb W B P 1 2 = 0) => ?_)
      · skip
        refine RQ.seg 6 (pc' := 45) (L' := [some (.ref 51), some (.int (iI 1)), some (.int (iI 3))]) (st' := [.int (iI (sc 304)), .int (iI 3)]) (g1 := (HW sc (usc ar 57 (usz (usz (usz (usz (usz (ar 57) 0 0) 1 0) 2 0) 0 1) 1 1)) tx oc rl ou tl, q)) rfl ?_
        refine RQ.to (L' := [some (.ref 51), some (.int (iI 1)), some (.int (iI 3))]) (st' := [.int (iI 3), .int (iI 3)]) rfl (by rw [show sc 304 = 3 from (hX.2.1.trans hk)]) ?_
        refine RQ.seg 7 (pc' := 30) (L' := [some (.ref 51), some (.int (iI 2)), some (.int (iI 3))]) (st' := [.int (iI (sc 304)), .int (iI 2)]) (g1 := (HW sc (usc ar 57 (usz (usz (usz (usz (usz (ar 57) 0 0) 1 0) 2 0) 0 1) 1 1)) tx oc rl ou tl, q)) rfl ?_
        refine RQ.to (L' := [some (.ref 51), some (.int (iI 2)), some (.int (iI 3))]) (st' := [.int (iI 3), .int (iI 2)]) rfl (by rw [show sc 304 = 3 from (hX.2.1.trans hk)]) ?_
        refine RQ.seg 9 (pc' := 45) (L' := [some (.ref 51), some (.int (iI 2)), some (.int (iI 3))]) (st' := [.int (iI (sc 304)), .int (iI 3)]) (g1 := (HW sc (usc ar 57 (usz (usz (usz (usz (usz (ar 57) 0 0) 1 0) 2 0) 0 1) 1 1)) tx oc rl ou tl, q)) rfl ?_
        refine RQ.to (L' := [some (.ref 51), some (.int (iI 2)), some (.int (iI 3))]) (st' := [.int (iI 3), .int (iI 3)]) rfl (by rw [show sc 304 = 3 from (hX.2.1.trans hk)]) ?_
        refine RQ.seg 7 (pc' := 30) (L' := [some (.ref 51), some (.int (iI 3)), some (.int (iI 3))]) (st' := [.int (iI (sc 304)), .int (iI 3)]) (g1 := (HW sc (usc ar 57 (usz (usz (usz (usz (usz (ar 57) 0 0) 1 0) 2 0) 0 1) 1 1)) tx oc rl ou tl, q)) rfl ?_
        refine RQ.to (L' := [some (.ref 51), some (.int (iI 3)), some (.int (iI 3))]) (st' := [.int (iI 3), .int (iI 3)]) rfl (by rw [show sc 304 = 3 from (hX.2.1.trans hk)]) ?_
        refine RQ.seg 1 (pc' := 89) (L' := [some (.ref 51), some (.int (iI 3)), some (.int (iI 3))]) (st' := []) (g1 := (HW sc (usc ar 57 (usz (usz (usz (usz (usz (ar 57) 0 0) 1 0) 2 0) 0 1) 1 1)) tx oc rl ou tl, q)) rfl ?_
        refine RQ.ret rfl rfl ?_
        refine ⟨rfl, _, rfl, fun j h0 h1 => ?_⟩
        rcases (show j = 0 ∨ j = 1 ∨ j = 2 by omega) with rfl | rfl | rfl
        · rw [show (usz (usz (usz (usz (usz (ar 57) 0 0) 1 0) 2 0) 0 1) 1 1) 0 = 1 by rw [usz_n (by omega), usz_s]]
          rw [if_pos (by omega), show shk nb W B P 0 = 0 + crz nb W B P 0 0 + crz nb W B P 0 1 + crz nb W B P 0 2 by rw [shk, hk]; rfl, crz_ii]
          omega
        · rw [show (usz (usz (usz (usz (usz (ar 57) 0 0) 1 0) 2 0) 0 1) 1 1) 1 = 1 by rw [usz_s]]
          rw [if_pos (by omega), show shk nb W B P 1 = 0 + crz nb W B P 1 0 + crz nb W B P 1 1 + crz nb W B P 1 2 by rw [shk, hk]; rfl, crz_ii, crz_sy nb W B P 1 0]
          omega
        · rw [show (usz (usz (usz (usz (usz (ar 57) 0 0) 1 0) 2 0) 0 1) 1 1) 2 = 0 by rw [usz_n (by omega), usz_n (by omega), usz_s]]
          rw [if_pos (by omega), show shk nb W B P 2 = 0 + crz nb W B P 2 0 + crz nb W B P 2 1 + crz nb W B P 2 2 by rw [shk, hk]; rfl, crz_ii, crz_sy nb W B P 2 0, crz_sy nb W B P 2 1]
          omega
      · skip
        refine RQ.seg 4 (pc' := 63) (L' := [some (.ref 51), some (.int (iI 1)), some (.int (iI 2))]) (st' := [.int (iI 1), .ref 57, .int (iI 1), .ref 57]) (g1 := (HW sc (usc ar 57 (usz (usz (usz (usz (usz (ar 57) 0 0) 1 0) 2 0) 0 1) 1 1)) tx oc rl ou tl, q)) rfl ?_
        refine RQ.ialdv (z := 1) (v := 1) rfl rfl rfl (by omega) (by decide) (show (usz (usz (usz (usz (usz (ar 57) 0 0) 1 0) 2 0) 0 1) 1 1) 1 = 1 by rw [usz_s]) ?_
        refine RQ.seg 2 (pc' := 66) (L' := [some (.ref 51), some (.int (iI 1)), some (.int (iI 2))]) (st' := [.int (iI 2), .int (iI 1), .ref 57]) (g1 := (HW sc (usc ar 57 (usz (usz (usz (usz (usz (ar 57) 0 0) 1 0) 2 0) 0 1) 1 1)) tx oc rl ou tl, q)) rfl ?_
        refine RQ.iast (z := 1) (v := 2) (g1 := (HW sc (usc ar 57 (usz (usz (usz (usz (usz (usz (ar 57) 0 0) 1 0) 2 0) 0 1) 1 1) 1 2)) tx oc rl ou tl, q)) rfl rfl rfl rfl (by omega) (by decide) (HWa_57 (by funext j; unfold usc; cases hb : Nat.beq j 57 <;> first | rfl | (rw [Nat.eq_of_beq_eq_true hb]; rfl))) ?_
        refine RQ.seg 4 (pc' := 73) (L' := [some (.ref 51), some (.int (iI 1)), some (.int (iI 2))]) (st' := [.int (iI 2), .ref 57, .int (iI 2), .ref 57]) (g1 := (HW sc (usc ar 57 (usz (usz (usz (usz (usz (usz (ar 57) 0 0) 1 0) 2 0) 0 1) 1 1) 1 2)) tx oc rl ou tl, q)) rfl ?_
        refine RQ.ialdv (z := 2) (v := 0) rfl rfl rfl (by omega) (by decide) (show (usz (usz (usz (usz (usz (usz (ar 57) 0 0) 1 0) 2 0) 0 1) 1 1) 1 2) 2 = 0 by rw [usz_n (by omega), usz_n (by omega), usz_n (by omega), usz_s]) ?_
        refine RQ.seg 2 (pc' := 76) (L' := [some (.ref 51), some (.int (iI 1)), some (.int (iI 2))]) (st' := [.int (iI 1), .int (iI 2), .ref 57]) (g1 := (HW sc (usc ar 57 (usz (usz (usz (usz (usz (usz (ar 57) 0 0) 1 0) 2 0) 0 1) 1 1) 1 2)) tx oc rl ou tl, q)) rfl ?_
        refine RQ.iast (z := 2) (v := 1) (g1 := (HW sc (usc ar 57 (usz (usz (usz (usz (usz (usz (usz (ar 57) 0 0) 1 0) 2 0) 0 1) 1 1) 1 2) 2 1)) tx oc rl ou tl, q)) rfl rfl rfl rfl (by omega) (by decide) (HWa_57 (by funext j; unfold usc; cases hb : Nat.beq j 57 <;> first | rfl | (rw [Nat.eq_of_beq_eq_true hb]; rfl))) ?_
        refine RQ.seg 6 (pc' := 45) (L' := [some (.ref 51), some (.int (iI 1)), some (.int (iI 3))]) (st' := [.int (iI (sc 304)), .int (iI 3)]) (g1 := (HW sc (usc ar 57 (usz (usz (usz (usz (usz (usz (usz (ar 57) 0 0) 1 0) 2 0) 0 1) 1 1) 1 2) 2 1)) tx oc rl ou tl, q)) rfl ?_
        refine RQ.to (L' := [some (.ref 51), some (.int (iI 1)), some (.int (iI 3))]) (st' := [.int (iI 3), .int (iI 3)]) rfl (by rw [show sc 304 = 3 from (hX.2.1.trans hk)]) ?_
        refine RQ.seg 7 (pc' := 30) (L' := [some (.ref 51), some (.int (iI 2)), some (.int (iI 3))]) (st' := [.int (iI (sc 304)), .int (iI 2)]) (g1 := (HW sc (usc ar 57 (usz (usz (usz (usz (usz (usz (usz (ar 57) 0 0) 1 0) 2 0) 0 1) 1 1) 1 2) 2 1)) tx oc rl ou tl, q)) rfl ?_
        refine RQ.to (L' := [some (.ref 51), some (.int (iI 2)), some (.int (iI 3))]) (st' := [.int (iI 3), .int (iI 2)]) rfl (by rw [show sc 304 = 3 from (hX.2.1.trans hk)]) ?_
        refine RQ.seg 9 (pc' := 45) (L' := [some (.ref 51), some (.int (iI 2)), some (.int (iI 3))]) (st' := [.int (iI (sc 304)), .int (iI 3)]) (g1 := (HW sc (usc ar 57 (usz (usz (usz (usz (usz (usz (usz (ar 57) 0 0) 1 0) 2 0) 0 1) 1 1) 1 2) 2 1)) tx oc rl ou tl, q)) rfl ?_
        refine RQ.to (L' := [some (.ref 51), some (.int (iI 2)), some (.int (iI 3))]) (st' := [.int (iI 3), .int (iI 3)]) rfl (by rw [show sc 304 = 3 from (hX.2.1.trans hk)]) ?_
        refine RQ.seg 7 (pc' := 30) (L' := [some (.ref 51), some (.int (iI 3)), some (.int (iI 3))]) (st' := [.int (iI (sc 304)), .int (iI 3)]) (g1 := (HW sc (usc ar 57 (usz (usz (usz (usz (usz (usz (usz (ar 57) 0 0) 1 0) 2 0) 0 1) 1 1) 1 2) 2 1)) tx oc rl ou tl, q)) rfl ?_
        refine RQ.to (L' := [some (.ref 51), some (.int (iI 3)), some (.int (iI 3))]) (st' := [.int (iI 3), .int (iI 3)]) rfl (by rw [show sc 304 = 3 from (hX.2.1.trans hk)]) ?_
        refine RQ.seg 1 (pc' := 89) (L' := [some (.ref 51), some (.int (iI 3)), some (.int (iI 3))]) (st' := []) (g1 := (HW sc (usc ar 57 (usz (usz (usz (usz (usz (usz (usz (ar 57) 0 0) 1 0) 2 0) 0 1) 1 1) 1 2) 2 1)) tx oc rl ou tl, q)) rfl ?_
        refine RQ.ret rfl rfl ?_
        refine ⟨rfl, _, rfl, fun j h0 h1 => ?_⟩
        rcases (show j = 0 ∨ j = 1 ∨ j = 2 by omega) with rfl | rfl | rfl
        · rw [show (usz (usz (usz (usz (usz (usz (usz (ar 57) 0 0) 1 0) 2 0) 0 1) 1 1) 1 2) 2 1) 0 = 1 by rw [usz_n (by omega), usz_n (by omega), usz_n (by omega), usz_s]]
          rw [if_pos (by omega), show shk nb W B P 0 = 0 + crz nb W B P 0 0 + crz nb W B P 0 1 + crz nb W B P 0 2 by rw [shk, hk]; rfl, crz_ii]
          omega
        · rw [show (usz (usz (usz (usz (usz (usz (usz (ar 57) 0 0) 1 0) 2 0) 0 1) 1 1) 1 2) 2 1) 1 = 2 by rw [usz_n (by omega), usz_s]]
          rw [if_pos (by omega), show shk nb W B P 1 = 0 + crz nb W B P 1 0 + crz nb W B P 1 1 + crz nb W B P 1 2 by rw [shk, hk]; rfl, crz_ii, crz_sy nb W B P 1 0]
          omega
        · rw [show (usz (usz (usz (usz (usz (usz (usz (ar 57) 0 0) 1 0) 2 0) 0 1) 1 1) 1 2) 2 1) 2 = 1 by rw [usz_s]]
          rw [if_pos (by omega), show shk nb W B P 2 = 0 + crz nb W B P 2 0 + crz nb W B P 2 1 + crz nb W B P 2 2 by rw [shk, hk]; rfl, crz_ii, crz_sy nb W B P 2 0, crz_sy nb W B P 2 1]
          omega
    · skip
      refine RQ.seg 4 (pc' := 63) (L' := [some (.ref 51), some (.int (iI 0)), some (.int (iI 2))]) (st' := [.int (iI 0), .ref 57, .int (iI 0), .ref 57]) (g1 := (HW sc (usc ar 57 (usz (usz (usz (usz (usz (ar 57) 0 0) 1 0) 2 0) 0 1) 1 1)) tx oc rl ou tl, q)) rfl ?_
      refine RQ.ialdv (z := 0) (v := 1) rfl rfl rfl (by omega) (by decide) (show (usz (usz (usz (usz (usz (ar 57) 0 0) 1 0) 2 0) 0 1) 1 1) 0 = 1 by rw [usz_n (by omega), usz_s]) ?_
      refine RQ.seg 2 (pc' := 66) (L' := [some (.ref 51), some (.int (iI 0)), some (.int (iI 2))]) (st' := [.int (iI 2), .int (iI 0), .ref 57]) (g1 := (HW sc (usc ar 57 (usz (usz (usz (usz (usz (ar 57) 0 0) 1 0) 2 0) 0 1) 1 1)) tx oc rl ou tl, q)) rfl ?_
      refine RQ.iast (z := 0) (v := 2) (g1 := (HW sc (usc ar 57 (usz (usz (usz (usz (usz (usz (ar 57) 0 0) 1 0) 2 0) 0 1) 1 1) 0 2)) tx oc rl ou tl, q)) rfl rfl rfl rfl (by omega) (by decide) (HWa_57 (by funext j; unfold usc; cases hb : Nat.beq j 57 <;> first | rfl | (rw [Nat.eq_of_beq_eq_true hb]; rfl))) ?_
      refine RQ.seg 4 (pc' := 73) (L' := [some (.ref 51), some (.int (iI 0)), some (.int (iI 2))]) (st' := [.int (iI 2), .ref 57, .int (iI 2), .ref 57]) (g1 := (HW sc (usc ar 57 (usz (usz (usz (usz (usz (usz (ar 57) 0 0) 1 0) 2 0) 0 1) 1 1) 0 2)) tx oc rl ou tl, q)) rfl ?_
      refine RQ.ialdv (z := 2) (v := 0) rfl rfl rfl (by omega) (by decide) (show (usz (usz (usz (usz (usz (usz (ar 57) 0 0) 1 0) 2 0) 0 1) 1 1) 0 2) 2 = 0 by rw [usz_n (by omega), usz_n (by omega), usz_n (by omega), usz_s]) ?_
      refine RQ.seg 2 (pc' := 76) (L' := [some (.ref 51), some (.int (iI 0)), some (.int (iI 2))]) (st' := [.int (iI 1), .int (iI 2), .ref 57]) (g1 := (HW sc (usc ar 57 (usz (usz (usz (usz (usz (usz (ar 57) 0 0) 1 0) 2 0) 0 1) 1 1) 0 2)) tx oc rl ou tl, q)) rfl ?_
      refine RQ.iast (z := 2) (v := 1) (g1 := (HW sc (usc ar 57 (usz (usz (usz (usz (usz (usz (usz (ar 57) 0 0) 1 0) 2 0) 0 1) 1 1) 0 2) 2 1)) tx oc rl ou tl, q)) rfl rfl rfl rfl (by omega) (by decide) (HWa_57 (by funext j; unfold usc; cases hb : Nat.beq j 57 <;> first | rfl | (rw [Nat.eq_of_beq_eq_true hb]; rfl))) ?_
      refine RQ.seg 6 (pc' := 45) (L' := [some (.ref 51), some (.int (iI 0)), some (.int (iI 3))]) (st' := [.int (iI (sc 304)), .int (iI 3)]) (g1 := (HW sc (usc ar 57 (usz (usz (usz (usz (usz (usz (usz (ar 57) 0 0) 1 0) 2 0) 0 1) 1 1) 0 2) 2 1)) tx oc rl ou tl, q)) rfl ?_
      refine RQ.to (L' := [some (.ref 51), some (.int (iI 0)), some (.int (iI 3))]) (st' := [.int (iI 3), .int (iI 3)]) rfl (by rw [show sc 304 = 3 from (hX.2.1.trans hk)]) ?_
      refine RQ.seg 7 (pc' := 30) (L' := [some (.ref 51), some (.int (iI 1)), some (.int (iI 3))]) (st' := [.int (iI (sc 304)), .int (iI 1)]) (g1 := (HW sc (usc ar 57 (usz (usz (usz (usz (usz (usz (usz (ar 57) 0 0) 1 0) 2 0) 0 1) 1 1) 0 2) 2 1)) tx oc rl ou tl, q)) rfl ?_
      refine RQ.to (L' := [some (.ref 51), some (.int (iI 1)), some (.int (iI 3))]) (st' := [.int (iI 3), .int (iI 1)]) rfl (by rw [show sc 304 = 3 from (hX.2.1.trans hk)]) ?_
      refine RQ.seg 9 (pc' := 45) (L' := [some (.ref 51), some (.int (iI 1)), some (.int (iI 2))]) (st' := [.int (iI (sc 304)), .int (iI 2)]) (g1 := (HW sc (usc ar 57 (usz (usz (usz (usz (usz (usz (usz (ar 57) 0 0) 1 0) 2 0) 0 1) 1 1) 0 2) 2 1)) tx oc rl ou tl, q)) rfl ?_
      refine RQ.to (L' := [some (.ref 51), some (.int (iI 1)), some (.int (iI 2))]) (st' := [.int (iI 3), .int (iI 2)]) rfl (by rw [show sc 304 = 3 from (hX.2.1.trans hk)]) ?_
      refine RQ.seg 4 (pc' := 51) (L' := [some (.ref 51), some (.int (iI 1)), some (.int (iI 2))]) (st' := [.int (iI 2), .int (iI 1), .ref 51]) (g1 := (HW sc (usc ar 57 (usz (usz (usz (usz (usz (usz (usz (ar 57) 0 0) 1 0) 2 0) 0 1) 1 1) 0 2) 2 1)) tx oc rl ou tl, q)) rfl ?_
      refine RQ.call rfl rfl (x_cross (sc := sc) (ar := usc ar 57 (usz (usz (usz (usz (usz (usz (usz (ar 57) 0 0) 1 0) 2 0) 0 1) 1 1) 0 2) 2 1)) hF hX hmy hpl hwi (a := 1) (b := 2) (by omega) (by omega) (by omega)) ?_
      have zh13 := crz_r nb W B P 1 2
      refine RQ.if1 (a := (crz nb W B P 1 2)) rfl rfl rfl (by omega) (fun (h14 : crz nb W B P 1 2 = 0) => ?_) (fun (h14 : ¬ crz nb W B P 1 2 = 0) => ?_)
      · skip
        refine RQ.seg 6 (pc' := 45) (L' := [some (.ref 51), some (.int (iI 1)), some (.int (iI 3))]) (st' := [.int (iI (sc 304)), .int (iI 3)]) (g1 := (HW sc (usc ar 57 (usz (usz (usz (usz (usz (usz (usz (ar 57) 0 0) 1 0) 2 0) 0 1) 1 1) 0 2) 2 1)) tx oc rl ou tl, q)) rfl ?_
        refine RQ.to (L' := [some (.ref 51), some (.int (iI 1)), some (.int (iI 3))]) (st' := [.int (iI 3), .int (iI 3)]) rfl (by rw [show sc 304 = 3 from (hX.2.1.trans hk)]) ?_
        refine RQ.seg 7 (pc' := 30) (L' := [some (.ref 51), some (.int (iI 2)), some (.int (iI 3))]) (st' := [.int (iI (sc 304)), .int (iI 2)]) (g1 := (HW sc (usc ar 57 (usz (usz (usz (usz (usz (usz (usz (ar 57) 0 0) 1 0) 2 0) 0 1) 1 1) 0 2) 2 1)) tx oc rl ou tl, q)) rfl ?_
        refine RQ.to (L' := [some (.ref 51), some (.int (iI 2)), some (.int (iI 3))]) (st' := [.int (iI 3), .int (iI 2)]) rfl (by rw [show sc 304 = 3 from (hX.2.1.trans hk)]) ?_
        refine RQ.seg 9 (pc' := 45) (L' := [some (.ref 51), some (.int (iI 2)), some (.int (iI 3))]) (st' := [.int (iI (sc 304)), .int (iI 3)]) (g1 := (HW sc (usc ar 57 (usz (usz (usz (usz (usz (usz (usz (ar 57) 0 0) 1 0) 2 0) 0 1) 1 1) 0 2) 2 1)) tx oc rl ou tl, q)) rfl ?_
        refine RQ.to (L' := [some (.ref 51), some (.int (iI 2)), some (.int (iI 3))]) (st' := [.int (iI 3), .int (iI 3)]) rfl (by rw [show sc 304 = 3 from (hX.2.1.trans hk)]) ?_
        refine RQ.seg 7 (pc' := 30) (L' := [some (.ref 51), some (.int (iI 3)), some (.int (iI 3))]) (st' := [.int (iI (sc 304)), .int (iI 3)]) (g1 := (HW sc (usc ar 57 (usz (usz (usz (usz (usz (usz (usz (ar 57) 0 0) 1 0) 2 0) 0 1) 1 1) 0 2) 2 1)) tx oc rl ou tl, q)) rfl ?_
        refine RQ.to (L' := [some (.ref 51), some (.int (iI 3)), some (.int (iI 3))]) (st' := [.int (iI 3), .int (iI 3)]) rfl (by rw [show sc 304 = 3 from (hX.2.1.trans hk)]) ?_
        refine RQ.seg 1 (pc' := 89) (L' := [some (.ref 51), some (.int (iI 3)), some (.int (iI 3))]) (st' := []) (g1 := (HW sc (usc ar 57 (usz (usz (usz (usz (usz (usz (usz (ar 57) 0 0) 1 0) 2 0) 0 1) 1 1) 0 2) 2 1)) tx oc rl ou tl, q)) rfl ?_
        refine RQ.ret rfl rfl ?_
        refine ⟨rfl, _, rfl, fun j h0 h1 => ?_⟩
        rcases (show j = 0 ∨ j = 1 ∨ j = 2 by omega) with rfl | rfl | rfl
        · rw [show (usz (usz (usz (usz (usz (usz (usz (ar 57) 0 0) 1 0) 2 0) 0 1) 1 1) 0 2) 2 1) 0 = 2 by rw [usz_n (by omega), usz_s]]
          rw [if_pos (by omega), show shk nb W B P 0 = 0 + crz nb W B P 0 0 + crz nb W B P 0 1 + crz nb W B P 0 2 by rw [shk, hk]; rfl, crz_ii]
          omega
        · rw [show (usz (usz (usz (usz (usz (usz (usz (ar 57) 0 0) 1 0) 2 0) 0 1) 1 1) 0 2) 2 1) 1 = 1 by rw [usz_n (by omega), usz_n (by omega), usz_s]]
          rw [if_pos (by omega), show shk nb W B P 1 = 0 + crz nb W B P 1 0 + crz nb W B P 1 1 + crz nb W B P 1 2 by rw [shk, hk]; rfl, crz_ii, crz_sy nb W B P 1 0]
          omega
        · rw [show (usz (usz (usz (usz (usz (usz (usz (ar 57) 0 0) 1 0) 2 0) 0 1) 1 1) 0 2) 2 1) 2 = 1 by rw [usz_s]]
          rw [if_pos (by omega), show shk nb W B P 2 = 0 + crz nb W B P 2 0 + crz nb W B P 2 1 + crz nb W B P 2 2 by rw [shk, hk]; rfl, crz_ii, crz_sy nb W B P 2 0, crz_sy nb W B P 2 1]
          omega
      · skip
        refine RQ.seg 4 (pc' := 63) (L' := [some (.ref 51), some (.int (iI 1)), some (.int (iI 2))]) (st' := [.int (iI 1), .ref 57, .int (iI 1), .ref 57]) (g1 := (HW sc (usc ar 57 (usz (usz (usz (usz (usz (usz (usz (ar 57) 0 0) 1 0) 2 0) 0 1) 1 1) 0 2) 2 1)) tx oc rl ou tl, q)) rfl ?_
        refine RQ.ialdv (z := 1) (v := 1) rfl rfl rfl (by omega) (by decide) (show (usz (usz (usz (usz (usz (usz (usz (ar 57) 0 0) 1 0) 2 0) 0 1) 1 1) 0 2) 2 1) 1 = 1 by rw [usz_n (by omega), usz_n (by omega), usz_s]) ?_
        refine RQ.seg 2 (pc' := 66) (L' := [some (.ref 51), some (.int (iI 1)), some (.int (iI 2))]) (st' := [.int (iI 2), .int (iI 1), .ref 57]) (g1 := (HW sc (usc ar 57 (usz (usz (usz (usz (usz (usz (usz (ar 57) 0 0) 1 0) 2 0) 0 1) 1 1) 0 2) 2 1)) tx oc rl ou tl, q)) rfl ?_
        refine RQ.iast (z := 1) (v := 2) (g1 := (HW sc (usc ar 57 (usz (usz (usz (usz (usz (usz (usz (usz (ar 57) 0 0) 1 0) 2 0) 0 1) 1 1) 0 2) 2 1) 1 2)) tx oc rl ou tl, q)) rfl rfl rfl rfl (by omega) (by decide) (HWa_57 (by funext j; unfold usc; cases hb : Nat.beq j 57 <;> first | rfl | (rw [Nat.eq_of_beq_eq_true hb]; rfl))) ?_
        refine RQ.seg 4 (pc' := 73) (L' := [some (.ref 51), some (.int (iI 1)), some (.int (iI 2))]) (st' := [.int (iI 2), .ref 57, .int (iI 2), .ref 57]) (g1 := (HW sc (usc ar 57 (usz (usz (usz (usz (usz (usz (usz (usz (ar 57) 0 0) 1 0) 2 0) 0 1) 1 1) 0 2) 2 1) 1 2)) tx oc rl ou tl, q)) rfl ?_
        refine RQ.ialdv (z := 2) (v := 1) rfl rfl rfl (by omega) (by decide) (show (usz (usz (usz (usz (usz (usz (usz (usz (ar 57) 0 0) 1 0) 2 0) 0 1) 1 1) 0 2) 2 1) 1 2) 2 = 1 by rw [usz_n (by omega), usz_s]) ?_
        refine RQ.seg 2 (pc' := 76) (L' := [some (.ref 51), some (.int (iI 1)), some (.int (iI 2))]) (st' := [.int (iI 2), .int (iI 2), .ref 57]) (g1 := (HW sc (usc ar 57 (usz (usz (usz (usz (usz (usz (usz (usz (ar 57) 0 0) 1 0) 2 0) 0 1) 1 1) 0 2) 2 1) 1 2)) tx oc rl ou tl, q)) rfl ?_
        refine RQ.iast (z := 2) (v := 2) (g1 := (HW sc (usc ar 57 (usz (usz (usz (usz (usz (usz (usz (usz (usz (ar 57) 0 0) 1 0) 2 0) 0 1) 1 1) 0 2) 2 1) 1 2) 2 2)) tx oc rl ou tl, q)) rfl rfl rfl rfl (by omega) (by decide) (HWa_57 (by funext j; unfold usc; cases hb : Nat.beq j 57 <;> first | rfl | (rw [Nat.eq_of_beq_eq_true hb]; rfl))) ?_
        refine RQ.seg 6 (pc' := 45) (L' := [some (.ref 51), some (.int (iI 1)), some (.int (iI 3))]) (st' := [.int (iI (sc 304)), .int (iI 3)]) (g1 := (HW sc (usc ar 57 (usz (usz (usz (usz (usz (usz (usz (usz (usz (ar 57) 0 0) 1 0) 2 0) 0 1) 1 1) 0 2) 2 1) 1 2) 2 2)) tx oc rl ou tl, q)) rfl ?_
        refine RQ.to (L' := [some (.ref 51), some (.int (iI 1)), some (.int (iI 3))]) (st' := [.int (iI 3), .int (iI 3)]) rfl (by rw [show sc 304 = 3 from (hX.2.1.trans hk)]) ?_
        refine RQ.seg 7 (pc' := 30) (L' := [some (.ref 51), some (.int (iI 2)), some (.int (iI 3))]) (st' := [.int (iI (sc 304)), .int (iI 2)]) (g1 := (HW sc (usc ar 57 (usz (usz (usz (usz (usz (usz (usz (usz (usz (ar 57) 0 0) 1 0) 2 0) 0 1) 1 1) 0 2) 2 1) 1 2) 2 2)) tx oc rl ou tl, q)) rfl ?_
        refine RQ.to (L' := [some (.ref 51), some (.int (iI 2)), some (.int (iI 3))]) (st' := [.int (iI 3), .int (iI 2)]) rfl (by rw [show sc 304 = 3 from (hX.2.1.trans hk)]) ?_
        refine RQ.seg 9 (pc' := 45) (L' := [some (.ref 51), some (.int (iI 2)), some (.int (iI 3))]) (st' := [.int (iI (sc 304)), .int (iI 3)]) (g1 := (HW sc (usc ar 57 (usz (usz (usz (usz (usz (usz (usz (usz (usz (ar 57) 0 0) 1 0) 2 0) 0 1) 1 1) 0 2) 2 1) 1 2) 2 2)) tx oc rl ou tl, q)) rfl ?_
        refine RQ.to (L' := [some (.ref 51), some (.int (iI 2)), some (.int (iI 3))]) (st' := [.int (iI 3), .int (iI 3)]) rfl (by rw [show sc 304 = 3 from (hX.2.1.trans hk)]) ?_
        refine RQ.seg 7 (pc' := 30) (L' := [some (.ref 51), some (.int (iI 3)), some (.int (iI 3))]) (st' := [.int (iI (sc 304)), .int (iI 3)]) (g1 := (HW sc (usc ar 57 (usz (usz (usz (usz (usz (usz (usz (usz (usz (ar 57) 0 0) 1 0) 2 0) 0 1) 1 1) 0 2) 2 1) 1 2) 2 2)) tx oc rl ou tl, q)) rfl ?_
        refine RQ.to (L' := [some (.ref 51), some (.int (iI 3)), some (.int (iI 3))]) (st' := [.int (iI 3), .int (iI 3)]) rfl (by rw [show sc 304 = 3 from (hX.2.1.trans hk)]) ?_
        refine RQ.seg 1 (pc' := 89) (L' := [some (.ref 51), some (.int (iI 3)), some (.int (iI 3))]) (st' := []) (g1 := (HW sc (usc ar 57 (usz (usz (usz (usz (usz (usz (usz (usz (usz (ar 57) 0 0) 1 0) 2 0) 0 1) 1 1) 0 2) 2 1) 1 2) 2 2)) tx oc rl ou tl, q)) rfl ?_
        refine RQ.ret rfl rfl ?_
        refine ⟨rfl, _, rfl, fun j h0 h1 => ?_⟩
        rcases (show j = 0 ∨ j = 1 ∨ j = 2 by omega) with rfl | rfl | rfl
        · rw [show (usz (usz (usz (usz (usz (usz (usz (usz (usz (ar 57) 0 0) 1 0) 2 0) 0 1) 1 1) 0 2) 2 1) 1 2) 2 2) 0 = 2 by rw [usz_n (by omega), usz_n (by omega), usz_n (by omega), usz_s]]
          rw [if_pos (by omega), show shk nb W B P 0 = 0 + crz nb W B P 0 0 + crz nb W B P 0 1 + crz nb W B P 0 2 by rw [shk, hk]; rfl, crz_ii]
          omega
        · rw [show (usz (usz (usz (usz (usz (usz (usz (usz (usz (ar 57) 0 0) 1 0) 2 0) 0 1) 1 1) 0 2) 2 1) 1 2) 2 2) 1 = 2 by rw [usz_n (by omega), usz_s]]
          rw [if_pos (by omega), show shk nb W B P 1 = 0 + crz nb W B P 1 0 + crz nb W B P 1 1 + crz nb W B P 1 2 by rw [shk, hk]; rfl, crz_ii, crz_sy nb W B P 1 0]
          omega
        · rw [show (usz (usz (usz (usz (usz (usz (usz (usz (usz (ar 57) 0 0) 1 0) 2 0) 0 1) 1 1) 0 2) 2 1) 1 2) 2 2) 2 = 2 by rw [usz_s]]
          rw [if_pos (by omega), show shk nb W B P 2 = 0 + crz nb W B P 2 0 + crz nb W B P 2 1 + crz nb W B P 2 2 by rw [shk, hk]; rfl, crz_ii, crz_sy nb W B P 2 0, crz_sy nb W B P 2 1]
          omega
theorem x_shakeAll {K : PK} {d : Nat} {sc : Nat → Int} {ar : Nat → Int → Int} {tx oc : Nat} {rl : Nat → Option Nat} {ou : Nat → Int64} {tl : List PO} {q : Nat × Nat} {nw nb : Int} {W B : Int → Int → Int} (hF : FrOK nw nb W B) (hX : FrX (sc 303) (sc 304) (ar 5) (ar 6) (ar 7) (ar 8) (ar 10) (ar 11) (ar 12) nw nb W B) {P : Int → Int} (hmy : PtOK nw nb W B P) (hpl : ∀ j, 0 ≤ j → j < 3 → ar 52 j = xpl nb B P j) (hwi : ∀ j, 0 ≤ j → j < 3 → ar 53 j = xwi nb B P j) : CQ K (d + 2) 35 [.ref 51] (HW sc ar tx oc rl ou tl, q) (fun r g' => r = none ∧ ∃ sh, g' = (HW sc (usc ar 57 sh) tx oc rl ou tl, q) ∧ ∀ j, 0 ≤ j → j < 3 → sh j = if j < nb then shk nb W B P j else 0) := by
  have hn := hF.1
  rcases (show nb = 0 ∨ nb = 1 ∨ nb = 2 ∨ nb = 3 by omega) with h | h | h | h
  · exact x_sh0 hF hX hmy hpl hwi h
  · exact x_sh1 hF hX hmy hpl hwi h
  · exact x_sh2 hF hX hmy hpl hwi h
  · exact x_sh3 hF hX hmy hpl hwi h
