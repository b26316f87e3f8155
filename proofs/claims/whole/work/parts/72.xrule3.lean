/-! the class reads a rule: atoms, units, all together, by wip/tools -/
/-! the class reads a rule: atoms, units, all together -/
theorem pre_1 {c : List Int} {e a x : Int} : pre c (e, a, [x]) = rap (e, a, c) x := rfl
theorem RX.nm {tp : List Int} {r0 : RS} {sc : Nat → Int} {ar : Nat → Int → Int} (ht : TpOK tp) (h : RX tp r0 sc ar) (he : r0.1 = -1) : RX tp ((nmR tp 4 r0.2.1).1, (nmR tp 4 r0.2.1).2.2, r0.2.2) (usc (usc sc 2601 (nmR tp 4 r0.2.1).2.2) 2602 (nmR tp 4 r0.2.1).1) ar := by
  obtain ⟨h1, h2, h3, h4, h5, h6⟩ := h
  obtain ⟨g1, g2, g3, g4⟩ := h6 he
  have ht1 := ht.1
  have hn := nmR_r (tp := tp) (k := 4) (a := r0.2.1) (by omega) (by omega)
  exact ⟨h1, by show 0 ≤ (nmR tp 4 r0.2.1).2.2 ∧ (nmR tp 4 r0.2.1).2.2 ≤ _; omega, h3, rfl, by show -1 ≤ (nmR tp 4 r0.2.1).1 ∧ (nmR tp 4 r0.2.1).1 ≤ 160; omega, fun _ => ⟨rfl, g2, g3, by show (r0.2.2.length : Int) ≤ (nmR tp 4 r0.2.1).2.2; omega⟩⟩
theorem xs_0 {K : PK} {tp : List Int} (ht : TpOK tp) (hK3 : K 3 = some (6, zA kc3)) (hK13 : K 13 = some (3, zA kc13)) {m : Nat} (hP : XP K tp m) : XC K tp (m + 1) 0 90 3 [] := by
  obtain ⟨p0, p1, p2, p3, p8, p4, p10, p5, p12, l6, l7, l8, l9, l11⟩ := hP
  intro D u dp r0 sc ar tx oc rl ou tl q hdu hdp hD hR hF
  rcases Decidable.em (r0.1 = -1) with he | hE
  · skip
    have ht1 := ht.1
    obtain ⟨⟨hs, hl⟩, hA, hZ, hW, hWr, hG⟩ := id hR
    obtain ⟨g1, g2, g3, g4⟩ := hG he
    have hw1 : sc 2602 = -1 := hW.trans he
    have hsk := sk_r (tp := tp) (p := r0.2.1) (by omega)
    have hlr := tch_r ht (sk tp r0.2.1)
    have hlk : 0 ≤ lk tp r0.2.1 ∧ lk tp r0.2.1 ≤ 255 := hlr
    have hFu : 16 * ((tp.length : Int) - r0.2.1) + 1 ≤ ((m + 1 : Nat) : Int) := hF he
    have hpr := pr_r (lk tp r0.2.1)
    have hnm := nmR_r (tp := tp) (k := 4) (a := r0.2.1) (by omega) (by omega)
    refine CQ.of (own := 7) (n := 4) (ini := false) (rt := none) (cd := cd90) (by decide +kernel) rfl (by decide +kernel) rfl (Nat.le_of_ble_eq_true rfl) ?_
    refine RQ.seg 1 (pc' := 1) (L' := [some (.ref 26), some (.int (iI dp)), none, none]) (st' := [.ref 26]) (g1 := (HW sc ar tx oc rl ou tl, q)) rfl ?_
    refine RQ.call rfl rfl (CallR.up (d := 1) (x_fine26t (d := 0) (sc := sc) (ar := ar) (by show -1 ≤ sc 2602 ∧ sc 2602 ≤ 200; omega) (by show sc 2602 = -1; omega)) (by omega)) ?_
    refine RQ.seg 2 (pc' := 9) (L' := [some (.ref 26), some (.int (iI dp)), none, none]) (st' := [.ref 26]) (g1 := (HW sc ar tx oc rl ou tl, q)) rfl ?_
    refine RQ.call rfl rfl (CallR.up (d := 1) (x_look26 (d := 0) (sc := sc) (ar := ar) (a := r0.2.1) ht hs hl g1 (by omega)) (by omega)) ?_
    refine RQ.seg 3 (pc' := 17) (L' := [some (.ref 26), some (.int (iI dp)), some (.int (iI (lk tp r0.2.1))), none]) (st' := [.int (iI (lk tp r0.2.1)), .retAddr 3]) (g1 := (HW (usc sc 2601 (sk tp r0.2.1)) ar tx oc rl ou tl, q)) rfl ?_
    refine RQ.call rfl rfl (CallR.up (d := 1) (x_place3 (d := 0) (c := lk tp r0.2.1) hK3 (by omega)) (by omega)) ?_
    refine RQ.seg 3 (pc' := 23) (L' := [some (.ref 26), some (.int (iI dp)), some (.int (iI (lk tp r0.2.1))), some (.int (iI (pr (lk tp r0.2.1))))]) (st' := [.int (iI (-1)), .int (iI (pr (lk tp r0.2.1)))]) (g1 := (HW (usc sc 2601 (sk tp r0.2.1)) ar tx oc rl ou tl, q)) rfl ?_
    refine RQ.if2 (a := (pr (lk tp r0.2.1))) (b := (-1)) rfl rfl rfl rfl (by omega) (by omega) (fun (h1 : pr (lk tp r0.2.1) = (-1)) => ?_) (fun (h1 : ¬ pr (lk tp r0.2.1) = (-1)) => ?_)
    · skip
      refine RQ.seg 2 (pc' := 53) (L' := [some (.ref 26), some (.int (iI dp)), some (.int (iI (lk tp r0.2.1))), some (.int (iI (pr (lk tp r0.2.1))))]) (st' := [.int (iI 91), .int (iI (lk tp r0.2.1))]) (g1 := (HW (usc sc 2601 (sk tp r0.2.1)) ar tx oc rl ou tl, q)) rfl ?_
      refine RQ.if2 (a := (lk tp r0.2.1)) (b := 91) rfl rfl rfl rfl (by omega) (by omega) (fun (h2 : lk tp r0.2.1 ≠ 91) => ?_) (fun (h2 : ¬ lk tp r0.2.1 ≠ 91) => ?_)
      · skip
        refine RQ.seg 4 (pc' := 86) (L' := [some (.ref 26), some (.int (iI dp)), some (.int (iI (lk tp r0.2.1))), some (.int (iI (pr (lk tp r0.2.1))))]) (st' := [.int (iI 4), .ref 26, .ref 27]) (g1 := (HW (usc sc 2601 (sk tp r0.2.1)) ar tx oc rl ou tl, q)) rfl ?_
        have hcall := x_number26 (K := K) (d := 0) (tx := tx) (oc := oc) (rl := rl) (ou := ou) (tl := tl) (q := q) (k := 4) (sc := usc sc 2601 (sk tp r0.2.1)) (ar := ar) (by omega) ht hs hl (a := sk tp r0.2.1) (w0 := -1) rfl (by omega) hw1 (by omega)
        rw [nmR_sk, if_pos rfl] at hcall
        refine RQ.call rfl rfl (CallR.up hcall (by omega)) ?_
        refine RQ.hp (g1 := (HW (usc (usc sc 2601 ((nmR tp 4 r0.2.1).2.2)) 2602 ((nmR tp 4 r0.2.1).1)) ar tx oc rl ou tl, q)) (HW_e (by rw [usc_uu _ 2601 _ _]; try rfl) rfl) ?_
        refine RQ.callQ rfl rfl (CQ.up (x_app (d := 0) (r0 := ((nmR tp 4 r0.2.1).1, (nmR tp 4 r0.2.1).2.2, r0.2.2)) (x := (nmR tp 4 r0.2.1).2.1) ht (RX.nm ht hR he) (by omega) (fun z => by have z1 : r0.2.1 + 1 ≤ (nmR tp 4 r0.2.1).2.2 := nmR_c (k := 3) (by omega) z; show (r0.2.2.length : Int) + 1 ≤ (nmR tp 4 r0.2.1).2.2; omega)) (by omega)) (fun rv g1 hc9 => ?_)
        obtain ⟨rfl, sc1, ar1, rfl, hs1, ha1, hR_1⟩ := hc9
        obtain ⟨⟨hs_1, hl_1⟩, hA_1, hZ_1, hW_1, hWr_1, hG_1⟩ := id hR_1
        have hS_1 : Same ruF sc sc1 := Same.tr Same.rf (Same.tr (by repeat (first | exact Same.rf | refine Same.us rfl ?_)) hs1)
        have hT_1 : Same ruA ar ar1 := Same.tr Same.rf (Same.tr (by repeat (first | exact Same.rf | refine Same.us rfl ?_)) ha1)
        refine RQ.ret rfl rfl ?_
        rw [show rsq r0 (rd tp (m + 1) 0 dp) = rap ((nmR tp 4 r0.2.1).1, (nmR tp 4 r0.2.1).2.2, r0.2.2) ((nmR tp 4 r0.2.1).2.1) by rw [rsq_p he, show rd tp (m + 1) 0 dp r0.2.1 = ((nmR tp 4 r0.2.1).1, (nmR tp 4 r0.2.1).2.2, [(nmR tp 4 r0.2.1).2.1]) by show rAtom tp (rd tp m) dp r0.2.1 = _; unfold rAtom; rw [if_neg (by omega), if_neg (by omega)], pre_1]]
        exact ⟨rfl, _, _, rfl, hS_1, hT_1, hR_1⟩
      · skip
        refine RQ.seg 2 (pc' := 58) (L' := [some (.ref 26), some (.int (iI dp)), some (.int (iI (lk tp r0.2.1))), some (.int (iI (pr (lk tp r0.2.1))))]) (st' := [.int (iI dp), .ref 26]) (g1 := (HW (usc sc 2601 (sk tp r0.2.1)) ar tx oc rl ou tl, q)) rfl ?_
        have hps := lk_in (tp := tp) (a := r0.2.1) (by omega) (by omega)
        rcases Decidable.em (dp < 6) with hd6 | hd6
        · refine RQ.call rfl rfl (CallR.up (d := 2) (x_nest_t (d := 0) (sc := usc sc 2601 (sk tp r0.2.1)) (ar := ar) (by omega) (by show 0 ≤ sk tp r0.2.1 ∧ sk tp r0.2.1 ≤ 200; omega) (by show -1 ≤ sc 2602 ∧ sc 2602 ≤ 200; omega) hw1 hd6) (by omega)) ?_
          refine RQ.hp (g1 := (HW (usc sc 2601 (sk tp r0.2.1 + 1)) ar tx oc rl ou tl, q)) (HW_e (by rw [usc_uu _ 2601 _ _]; try rfl) rfl) ?_
          refine RQ.seg 5 (pc' := 68) (L' := [some (.ref 26), some (.int (iI dp)), some (.int (iI (lk tp r0.2.1))), some (.int (iI (pr (lk tp r0.2.1))))]) (st' := [.int ((iI dp) + (iI 1)), .ref 26]) (g1 := (HW (usc sc 2601 (sk tp r0.2.1 + 1)) ar tx oc rl ou tl, q)) rfl ?_
          refine RQ.to (L' := [some (.ref 26), some (.int (iI dp)), some (.int (iI (lk tp r0.2.1))), some (.int (iI (pr (lk tp r0.2.1))))]) (st' := [.int (iI (dp + 1)), .ref 26]) rfl (by simp only [iI_add, iI_sub, iI_mul, iI_neg]) ?_
          refine RQ.callQ rfl rfl (CQ.up (p2 (D - 1) (u - 1) (dp + 1) (((-1, sk tp r0.2.1 + 1, r0.2.2) : RS)) _ _ _ _ _ _ _ _ (by omega) (by omega) (by omega) (RX.mv hR he (by omega)) (fun _ => by show 16 * ((tp.length : Int) - (sk tp r0.2.1 + 1)) + 3 ≤ (m : Int); omega)) (by omega)) (fun rv g1 hc9 => ?_)
          obtain ⟨rfl, sc1, ar1, rfl, hs1, ha1, hR_1⟩ := hc9
          obtain ⟨⟨hs_1, hl_1⟩, hA_1, hZ_1, hW_1, hWr_1, hG_1⟩ := id hR_1
          have hS_1 : Same ruF sc sc1 := Same.tr Same.rf (Same.tr (by repeat (first | exact Same.rf | refine Same.us rfl ?_)) hs1)
          have hT_1 : Same ruA ar ar1 := Same.tr Same.rf (Same.tr (by repeat (first | exact Same.rf | refine Same.us rfl ?_)) ha1)
          refine RQ.seg 2 (pc' := 74) (L' := [some (.ref 26), some (.int (iI dp)), some (.int (iI (lk tp r0.2.1))), some (.int (iI (pr (lk tp r0.2.1))))]) (st' := [.int (iI 93), .ref 26]) (g1 := (HW sc1 ar1 tx oc rl ou tl, q)) rfl ?_
          refine RQ.callQ rfl rfl (CQ.up (x_exp (d := 0) (r0 := rsq (((-1, sk tp r0.2.1 + 1, r0.2.2) : RS)) (rd tp m 2 (dp + 1))) (c := 93) ht hR_1 (by omega)) (by omega)) (fun rv g1 hc9 => ?_)
          obtain ⟨rfl, sc2, ar2, rfl, hs2, ha2, hR_2⟩ := hc9
          obtain ⟨⟨hs_2, hl_2⟩, hA_2, hZ_2, hW_2, hWr_2, hG_2⟩ := id hR_2
          have hS_2 : Same ruF sc sc2 := Same.tr hS_1 (Same.tr (by repeat (first | exact Same.rf | refine Same.us rfl ?_)) hs2)
          have hT_2 : Same ruA ar ar2 := Same.tr hT_1 (Same.tr (by repeat (first | exact Same.rf | refine Same.us rfl ?_)) ha2)
          refine RQ.seg 1 (pc' := 92) (L' := [some (.ref 26), some (.int (iI dp)), some (.int (iI (lk tp r0.2.1))), some (.int (iI (pr (lk tp r0.2.1))))]) (st' := []) (g1 := (HW sc2 ar2 tx oc rl ou tl, q)) rfl ?_
          refine RQ.ret rfl rfl ?_
          rw [show rsq r0 (rd tp (m + 1) 0 dp) = rsq (rsq (((-1, sk tp r0.2.1 + 1, r0.2.2) : RS)) (rd tp m 2 (dp + 1))) (rex tp 93) by rw [rsq_p he, show rd tp (m + 1) 0 dp r0.2.1 = rsq (rd tp m 2 (dp + 1) (sk tp r0.2.1 + 1)) (rex tp 93) by show rAtom tp (rd tp m) dp r0.2.1 = _; unfold rAtom; rw [if_neg (by omega), if_pos (by omega), if_pos (by omega)], rsq_1, pre_sq]]
          exact ⟨rfl, _, _, rfl, hS_2, hT_2, hR_2⟩
        · refine RQ.call rfl rfl (CallR.up (d := 2) (x_nest_f (d := 0) (sc := usc sc 2601 (sk tp r0.2.1)) (ar := ar) (by omega) (by show 0 ≤ sk tp r0.2.1 ∧ sk tp r0.2.1 ≤ 200; omega) (by show -1 ≤ sc 2602 ∧ sc 2602 ≤ 200; omega) hw1 hd6) (by omega)) ?_
          refine RQ.seg 1 (pc' := 92) (L' := [some (.ref 26), some (.int (iI dp)), some (.int (iI (lk tp r0.2.1))), some (.int (iI (pr (lk tp r0.2.1))))]) (st' := []) (g1 := (HW (usc (usc sc 2601 (sk tp r0.2.1)) 2602 (sk tp r0.2.1)) ar tx oc rl ou tl, q)) rfl ?_
          refine RQ.ret rfl rfl ?_
          rw [show rsq r0 (rd tp (m + 1) 0 dp) = pre r0.2.2 (rno tp r0.2.1) by rw [rsq_p he, show rd tp (m + 1) 0 dp r0.2.1 = rno tp r0.2.1 by show rAtom tp (rd tp m) dp r0.2.1 = _; unfold rAtom; rw [if_neg (by omega), if_pos (by omega), if_neg (by omega)]]]
          exact ⟨rfl, _, _, rfl, (by repeat (first | exact Same.rf | refine Same.us rfl ?_)), (by repeat (first | exact Same.rf | refine Same.us rfl ?_)), RX.no ht hR he⟩
    · skip
      refine RQ.seg 5 (pc' := 33) (L' := [some (.ref 26), some (.int (iI dp)), some (.int (iI (lk tp r0.2.1))), some (.int (iI (pr (lk tp r0.2.1))))]) (st' := [.int ((iI (sk tp r0.2.1)) + (iI 1)), .ref 26]) (g1 := (HW (usc sc 2601 (sk tp r0.2.1)) ar tx oc rl ou tl, q)) rfl ?_
      refine RQ.to (L' := [some (.ref 26), some (.int (iI dp)), some (.int (iI (lk tp r0.2.1))), some (.int (iI (pr (lk tp r0.2.1))))]) (st' := [.int (iI (sk tp r0.2.1 + 1)), .ref 26]) rfl (by simp only [iI_add, iI_sub, iI_mul, iI_neg]) ?_
      refine RQ.seg 6 (pc' := 44) (L' := [some (.ref 26), some (.int (iI dp)), some (.int (iI (lk tp r0.2.1))), some (.int (iI (pr (lk tp r0.2.1))))]) (st' := [.int ((iI (-13)) - (iI (pr (lk tp r0.2.1)))), .ref 27]) (g1 := (HW (usc sc 2601 (sk tp r0.2.1 + 1)) ar tx oc rl ou tl, q)) rfl ?_
      refine RQ.to (L' := [some (.ref 26), some (.int (iI dp)), some (.int (iI (lk tp r0.2.1))), some (.int (iI (pr (lk tp r0.2.1))))]) (st' := [.int (iI ((-13) - (pr (lk tp r0.2.1)))), .ref 27]) rfl (by simp only [iI_add, iI_sub, iI_mul, iI_neg]) ?_
      have hps := lk_in (tp := tp) (a := r0.2.1) (by omega) (hpr.2.2 (by omega))
      refine RQ.callQ rfl rfl (CQ.up (x_app (d := 0) (r0 := ((-1, sk tp r0.2.1 + 1, r0.2.2) : RS)) (x := (-13) - (pr (lk tp r0.2.1))) ht (RX.mv hR he (by omega)) (by omega) (fun _ => by show (r0.2.2.length : Int) + 1 ≤ sk tp r0.2.1 + 1; omega)) (by omega)) (fun rv g1 hc9 => ?_)
      obtain ⟨rfl, sc1, ar1, rfl, hs1, ha1, hR_1⟩ := hc9
      obtain ⟨⟨hs_1, hl_1⟩, hA_1, hZ_1, hW_1, hWr_1, hG_1⟩ := id hR_1
      have hS_1 : Same ruF sc sc1 := Same.tr Same.rf (Same.tr (by repeat (first | exact Same.rf | refine Same.us rfl ?_)) hs1)
      have hT_1 : Same ruA ar ar1 := Same.tr Same.rf (Same.tr (by repeat (first | exact Same.rf | refine Same.us rfl ?_)) ha1)
      refine RQ.seg 1 (pc' := 92) (L' := [some (.ref 26), some (.int (iI dp)), some (.int (iI (lk tp r0.2.1))), some (.int (iI (pr (lk tp r0.2.1))))]) (st' := []) (g1 := (HW sc1 ar1 tx oc rl ou tl, q)) rfl ?_
      refine RQ.ret rfl rfl ?_
      rw [show rsq r0 (rd tp (m + 1) 0 dp) = rap ((-1, sk tp r0.2.1 + 1, r0.2.2) : RS) ((-13) - (pr (lk tp r0.2.1))) by rw [rsq_p he, show rd tp (m + 1) 0 dp r0.2.1 = (-1, sk tp r0.2.1 + 1, [-13 - pr (lk tp r0.2.1)]) by show rAtom tp (rd tp m) dp r0.2.1 = _; unfold rAtom; rw [if_pos (by omega)], pre_1]]
      exact ⟨rfl, _, _, rfl, hS_1, hT_1, hR_1⟩
  · rw [rsq_b hE]; exact CQ.up (x_atomB (d := 0) (dp := dp) (by omega) ht hR hE) (by omega)
theorem xz_8 {K : PK} {tp : List Int} (ht : TpOK tp) (hK3 : K 3 = some (6, zA kc3)) (hK13 : K 13 = some (3, zA kc13)) {m : Nat} : XL8 K tp 0 := by
  intro D u dp s2 s3 e4 r0 sc ar tx oc rl ou tl q hdu hdp hD hR hF
  rcases Decidable.em (r0.1 = -1) with he | hE
  · exfalso
    have z1 : 16 * ((tp.length : Int) - r0.2.1) + 1 ≤ ((0 : Nat) : Int) := hF he
    have z2 := hR.2.1
    have z3 := (hR.2.2.2.2.2 he).1
    omega
  · skip
    have ht1 := ht.1
    obtain ⟨⟨hs, hl⟩, hA, hZ, hW, hWr, hG⟩ := id hR
    rw [rsq_b hE]
    refine RQ.seg 2 (pc' := 91) (L' := [some (.ref 26), some (.int (iI dp)), some (.int (iI s2)), some (.int (iI s3)), e4]) (st' := [.ref 26, .retAddr 13]) (g1 := (HW sc ar tx oc rl ou tl, q)) rfl ?_
    have hlr0 := tch_r ht (sk tp (sc 2601))
    have hsr0 := sk_r (tp := tp) (p := sc 2601) (by omega)
    have hlk0 : 0 ≤ lk tp (sc 2601) ∧ lk tp (sc 2601) ≤ 255 := hlr0
    refine RQ.call rfl rfl (CallR.up (d := 1) (x_look26 (d := 0) (sc := sc) (ar := ar) (a := sc 2601) ht hs hl rfl (by omega)) (by omega)) ?_
    refine RQ.call rfl rfl (CallR.up (d := 1) (x_place13 (d := 0) (c := lk tp (sc 2601)) hK13 (by omega)) (by omega)) ?_
    refine RQ.seg 2 (pc' := 100) (L' := [some (.ref 26), some (.int (iI dp)), some (.int (iI s2)), some (.int (iI s3)), some (.int (iI (pcm (lk tp (sc 2601)))))]) (st' := [.ref 26]) (g1 := (HW (usc sc 2601 (sk tp (sc 2601))) ar tx oc rl ou tl, q)) rfl ?_
    refine RQ.call rfl rfl (CallR.up (d := 1) (x_fine26f (d := 0) (sc := usc sc 2601 (sk tp (sc 2601))) (ar := ar) (by show -1 ≤ sc 2602 ∧ sc 2602 ≤ 200; omega) (by show ¬ sc 2602 = -1; omega)) (by omega)) ?_
    refine RQ.seg 4 (pc' := 117) (L' := [some (.ref 26), some (.int (iI dp)), some (.int (iI s2)), some (.int (iI s3)), some (.int (iI (pcm (lk tp (sc 2601)))))]) (st' := [.int (iI (sk tp (sc 2601))), .ref 26]) (g1 := (HW (usc sc 2601 (sk tp (sc 2601))) ar tx oc rl ou tl, q)) rfl ?_
    have hcall := x_refuse26 (K := K) (d := 0) (tx := tx) (oc := oc) (rl := rl) (ou := ou) (tl := tl) (q := q) (sc := usc sc 2601 (sk tp (sc 2601))) (ar := ar) (p := sk tp (sc 2601)) (by show -1 ≤ sc 2602 ∧ sc 2602 ≤ 200; omega)
    rw [show (if (usc sc 2601 (sk tp (sc 2601))) 2602 = -1 then sk tp (sc 2601) else (usc sc 2601 (sk tp (sc 2601))) 2602) = sc 2602 from if_neg (by show ¬ sc 2602 = -1; omega)] at hcall
    refine RQ.call rfl rfl (CallR.up hcall (by omega)) ?_
    refine RQ.ret rfl rfl ?_
    exact ⟨rfl, _, _, rfl, by repeat (first | exact Same.rf | refine Same.us rfl ?_), by repeat (first | exact Same.rf | refine Same.us rfl ?_), RX.bad hR hE rfl rfl (by show 0 ≤ sk tp (sc 2601) ∧ sk tp (sc 2601) ≤ _; omega) (by show 0 ≤ sc 2701 ∧ sc 2701 ≤ 161; omega) rfl⟩
theorem xl_8 {K : PK} {tp : List Int} (ht : TpOK tp) (hK3 : K 3 = some (6, zA kc3)) (hK13 : K 13 = some (3, zA kc13)) {m : Nat} (hP : XP K tp m) : XL8 K tp (m + 1) := by
  obtain ⟨p0, p1, p2, p3, p8, p4, p10, p5, p12, l6, l7, l8, l9, l11⟩ := hP
  intro D u dp s2 s3 e4 r0 sc ar tx oc rl ou tl q hdu hdp hD hR hF
  rcases Decidable.em (r0.1 = -1) with he | hE
  · skip
    have ht1 := ht.1
    obtain ⟨⟨hs, hl⟩, hA, hZ, hW, hWr, hG⟩ := id hR
    obtain ⟨g1, g2, g3, g4⟩ := hG he
    have hw1 : sc 2602 = -1 := hW.trans he
    have hsk := sk_r (tp := tp) (p := r0.2.1) (by omega)
    have hlr := tch_r ht (sk tp r0.2.1)
    have hlk : 0 ≤ lk tp r0.2.1 ∧ lk tp r0.2.1 ≤ 255 := hlr
    have hFu : 16 * ((tp.length : Int) - r0.2.1) + 1 ≤ ((m + 1 : Nat) : Int) := hF he
    have hpr := pcm_r (lk tp r0.2.1)
    refine RQ.seg 2 (pc' := 91) (L' := [some (.ref 26), some (.int (iI dp)), some (.int (iI s2)), some (.int (iI s3)), e4]) (st' := [.ref 26, .retAddr 13]) (g1 := (HW sc ar tx oc rl ou tl, q)) rfl ?_
    refine RQ.call rfl rfl (CallR.up (d := 1) (x_look26 (d := 0) (sc := sc) (ar := ar) (a := r0.2.1) ht hs hl g1 (by omega)) (by omega)) ?_
    refine RQ.call rfl rfl (CallR.up (d := 1) (x_place13 (d := 0) (c := lk tp r0.2.1) hK13 (by omega)) (by omega)) ?_
    refine RQ.seg 2 (pc' := 100) (L' := [some (.ref 26), some (.int (iI dp)), some (.int (iI s2)), some (.int (iI s3)), some (.int (iI (pcm (lk tp r0.2.1))))]) (st' := [.ref 26]) (g1 := (HW (usc sc 2601 (sk tp r0.2.1)) ar tx oc rl ou tl, q)) rfl ?_
    refine RQ.call rfl rfl (CallR.up (d := 1) (x_fine26t (d := 0) (sc := usc sc 2601 (sk tp r0.2.1)) (ar := ar) (by show -1 ≤ sc 2602 ∧ sc 2602 ≤ 200; omega) (by show sc 2602 = -1; omega)) (by omega)) ?_
    refine RQ.seg 3 (pc' := 109) (L' := [some (.ref 26), some (.int (iI dp)), some (.int (iI s2)), some (.int (iI s3)), some (.int (iI (pcm (lk tp r0.2.1))))]) (st' := [.int (iI (-1)), .int (iI (pcm (lk tp r0.2.1)))]) (g1 := (HW (usc sc 2601 (sk tp r0.2.1)) ar tx oc rl ou tl, q)) rfl ?_
    refine RQ.if2 (a := (pcm (lk tp r0.2.1))) (b := (-1)) rfl rfl rfl rfl (by omega) (by omega) (fun (h1 : pcm (lk tp r0.2.1) ≠ (-1)) => ?_) (fun (h1 : ¬ pcm (lk tp r0.2.1) ≠ (-1)) => ?_)
    · skip
      refine RQ.seg 5 (pc' := 128) (L' := [some (.ref 26), some (.int (iI dp)), some (.int (iI s2)), some (.int (iI s3)), some (.int (iI (pcm (lk tp r0.2.1))))]) (st' := [.int ((iI (sk tp r0.2.1)) + (iI 1)), .ref 26]) (g1 := (HW (usc sc 2601 (sk tp r0.2.1)) ar tx oc rl ou tl, q)) rfl ?_
      refine RQ.to (L' := [some (.ref 26), some (.int (iI dp)), some (.int (iI s2)), some (.int (iI s3)), some (.int (iI (pcm (lk tp r0.2.1))))]) (st' := [.int (iI (sk tp r0.2.1 + 1)), .ref 26]) rfl (by simp only [iI_add, iI_sub, iI_mul, iI_neg]) ?_
      refine RQ.seg 3 (pc' := 133) (L' := [some (.ref 26), some (.int (iI dp)), some (.int (iI s2)), some (.int (iI s3)), some (.int (iI (pcm (lk tp r0.2.1))))]) (st' := [.int (iI dp), .ref 26]) (g1 := (HW (usc sc 2601 (sk tp r0.2.1 + 1)) ar tx oc rl ou tl, q)) rfl ?_
      have hps := lk_in (tp := tp) (a := r0.2.1) (by omega) (hpr.2.2 (by omega))
      refine RQ.callQ rfl rfl (CQ.up (p2 (D - 1) (u) (dp) (((-1, sk tp r0.2.1 + 1, r0.2.2) : RS)) _ _ _ _ _ _ _ _ (by omega) (by omega) (by omega) (RX.mv hR he (by omega)) (fun _ => by show 16 * ((tp.length : Int) - (sk tp r0.2.1 + 1)) + 3 ≤ (m : Int); omega)) (by omega)) (fun rv g1 hc9 => ?_)
      obtain ⟨rfl, sc1, ar1, rfl, hs1, ha1, hR_1⟩ := hc9
      obtain ⟨⟨hs_1, hl_1⟩, hA_1, hZ_1, hW_1, hWr_1, hG_1⟩ := id hR_1
      have hS_1 : Same ruF sc sc1 := Same.tr Same.rf (Same.tr (by repeat (first | exact Same.rf | refine Same.us rfl ?_)) hs1)
      have hT_1 : Same ruA ar ar1 := Same.tr Same.rf (Same.tr (by repeat (first | exact Same.rf | refine Same.us rfl ?_)) ha1)
      refine RQ.seg 5 (pc' := 145) (L' := [some (.ref 26), some (.int (iI dp)), some (.int (iI s2)), some (.int (iI s3)), some (.int (iI (pcm (lk tp r0.2.1))))]) (st' := [.int ((iI (-5)) - (iI (pcm (lk tp r0.2.1)))), .ref 27]) (g1 := (HW sc1 ar1 tx oc rl ou tl, q)) rfl ?_
      refine RQ.to (L' := [some (.ref 26), some (.int (iI dp)), some (.int (iI s2)), some (.int (iI s3)), some (.int (iI (pcm (lk tp r0.2.1))))]) (st' := [.int (iI ((-5) - (pcm (lk tp r0.2.1)))), .ref 27]) rfl (by simp only [iI_add, iI_sub, iI_mul, iI_neg]) ?_
      refine RQ.callQ rfl rfl (CQ.up (x_app (d := 0) (r0 := rsq (((-1, sk tp r0.2.1 + 1, r0.2.2) : RS)) (rd tp m 2 (dp))) (x := (-5) - (pcm (lk tp r0.2.1))) ht hR_1 (by omega) (by rw [rsq_1]; exact pre_sl ((rd_ok (tp := tp) m).at 2 (dp) (a := sk tp r0.2.1 + 1) (by omega)) (by omega))) (by omega)) (fun rv g1 hc9 => ?_)
      obtain ⟨rfl, sc2, ar2, rfl, hs2, ha2, hR_2⟩ := hc9
      obtain ⟨⟨hs_2, hl_2⟩, hA_2, hZ_2, hW_2, hWr_2, hG_2⟩ := id hR_2
      have hS_2 : Same ruF sc sc2 := Same.tr hS_1 (Same.tr (by repeat (first | exact Same.rf | refine Same.us rfl ?_)) hs2)
      have hT_2 : Same ruA ar ar2 := Same.tr hT_1 (Same.tr (by repeat (first | exact Same.rf | refine Same.us rfl ?_)) ha2)
      refine RQ.ret rfl rfl ?_
      rw [show rsq r0 (rd tp (m + 1) 8 dp) = rap (rsq (((-1, sk tp r0.2.1 + 1, r0.2.2) : RS)) (rd tp m 2 (dp))) ((-5) - (pcm (lk tp r0.2.1))) by rw [rsq_p he, show rd tp (m + 1) 8 dp r0.2.1 = rap (rd tp m 2 dp (sk tp r0.2.1 + 1)) (-5 - pcm (lk tp r0.2.1)) by show rCmp tp (rd tp m) dp r0.2.1 = _; unfold rCmp; rw [if_neg (by omega)], rsq_1, pre_ap]]
      exact ⟨rfl, _, _, rfl, hS_2, hT_2, hR_2⟩
    · skip
      refine RQ.seg 3 (pc' := 117) (L' := [some (.ref 26), some (.int (iI dp)), some (.int (iI s2)), some (.int (iI s3)), some (.int (iI (pcm (lk tp r0.2.1))))]) (st' := [.int (iI (sk tp r0.2.1)), .ref 26]) (g1 := (HW (usc sc 2601 (sk tp r0.2.1)) ar tx oc rl ou tl, q)) rfl ?_
      have hcall := x_refuse26 (K := K) (d := 0) (tx := tx) (oc := oc) (rl := rl) (ou := ou) (tl := tl) (q := q) (sc := usc sc 2601 (sk tp r0.2.1)) (ar := ar) (p := sk tp r0.2.1) (by show -1 ≤ sc 2602 ∧ sc 2602 ≤ 200; omega)
      rw [show (if (usc sc 2601 (sk tp r0.2.1)) 2602 = -1 then sk tp r0.2.1 else (usc sc 2601 (sk tp r0.2.1)) 2602) = sk tp r0.2.1 from if_pos hw1] at hcall
      refine RQ.call rfl rfl (CallR.up hcall (by omega)) ?_
      refine RQ.ret rfl rfl ?_
      rw [show rsq r0 (rd tp (m + 1) 8 dp) = pre r0.2.2 (rno tp r0.2.1) by rw [rsq_p he, show rd tp (m + 1) 8 dp r0.2.1 = rno tp r0.2.1 by show rCmp tp (rd tp m) dp r0.2.1 = _; unfold rCmp; rw [if_pos (by omega)]]]
      exact ⟨rfl, _, _, rfl, (by repeat (first | exact Same.rf | refine Same.us rfl ?_)), (by repeat (first | exact Same.rf | refine Same.us rfl ?_)), RX.no ht hR he⟩
  · skip
    have ht1 := ht.1
    obtain ⟨⟨hs, hl⟩, hA, hZ, hW, hWr, hG⟩ := id hR
    rw [rsq_b hE]
    refine RQ.seg 2 (pc' := 91) (L' := [some (.ref 26), some (.int (iI dp)), some (.int (iI s2)), some (.int (iI s3)), e4]) (st' := [.ref 26, .retAddr 13]) (g1 := (HW sc ar tx oc rl ou tl, q)) rfl ?_
    have hlr0 := tch_r ht (sk tp (sc 2601))
    have hsr0 := sk_r (tp := tp) (p := sc 2601) (by omega)
    have hlk0 : 0 ≤ lk tp (sc 2601) ∧ lk tp (sc 2601) ≤ 255 := hlr0
    refine RQ.call rfl rfl (CallR.up (d := 1) (x_look26 (d := 0) (sc := sc) (ar := ar) (a := sc 2601) ht hs hl rfl (by omega)) (by omega)) ?_
    refine RQ.call rfl rfl (CallR.up (d := 1) (x_place13 (d := 0) (c := lk tp (sc 2601)) hK13 (by omega)) (by omega)) ?_
    refine RQ.seg 2 (pc' := 100) (L' := [some (.ref 26), some (.int (iI dp)), some (.int (iI s2)), some (.int (iI s3)), some (.int (iI (pcm (lk tp (sc 2601)))))]) (st' := [.ref 26]) (g1 := (HW (usc sc 2601 (sk tp (sc 2601))) ar tx oc rl ou tl, q)) rfl ?_
    refine RQ.call rfl rfl (CallR.up (d := 1) (x_fine26f (d := 0) (sc := usc sc 2601 (sk tp (sc 2601))) (ar := ar) (by show -1 ≤ sc 2602 ∧ sc 2602 ≤ 200; omega) (by show ¬ sc 2602 = -1; omega)) (by omega)) ?_
    refine RQ.seg 4 (pc' := 117) (L' := [some (.ref 26), some (.int (iI dp)), some (.int (iI s2)), some (.int (iI s3)), some (.int (iI (pcm (lk tp (sc 2601)))))]) (st' := [.int (iI (sk tp (sc 2601))), .ref 26]) (g1 := (HW (usc sc 2601 (sk tp (sc 2601))) ar tx oc rl ou tl, q)) rfl ?_
    have hcall := x_refuse26 (K := K) (d := 0) (tx := tx) (oc := oc) (rl := rl) (ou := ou) (tl := tl) (q := q) (sc := usc sc 2601 (sk tp (sc 2601))) (ar := ar) (p := sk tp (sc 2601)) (by show -1 ≤ sc 2602 ∧ sc 2602 ≤ 200; omega)
    rw [show (if (usc sc 2601 (sk tp (sc 2601))) 2602 = -1 then sk tp (sc 2601) else (usc sc 2601 (sk tp (sc 2601))) 2602) = sc 2602 from if_neg (by show ¬ sc 2602 = -1; omega)] at hcall
    refine RQ.call rfl rfl (CallR.up hcall (by omega)) ?_
    refine RQ.ret rfl rfl ?_
    exact ⟨rfl, _, _, rfl, by repeat (first | exact Same.rf | refine Same.us rfl ?_), by repeat (first | exact Same.rf | refine Same.us rfl ?_), RX.bad hR hE rfl rfl (by show 0 ≤ sk tp (sc 2601) ∧ sk tp (sc 2601) ≤ _; omega) (by show 0 ≤ sc 2701 ∧ sc 2701 ≤ 161; omega) rfl⟩
theorem xs_8 {K : PK} {tp : List Int} (ht : TpOK tp) (hK3 : K 3 = some (6, zA kc3)) (hK13 : K 13 = some (3, zA kc13)) {m : Nat} (l8 : XL8 K tp m) : XC K tp m 8 87 6 [.int (iI 1)] := by
  intro D u dp r0 sc ar tx oc rl ou tl q hdu hdp hD hR hF
  refine CQ.of (own := 7) (n := 5) (ini := false) (rt := none) (cd := cd87) (by decide +kernel) rfl (by decide +kernel) rfl (Nat.le_of_ble_eq_true rfl) ?_
  refine RQ.seg 13 (pc' := 87) (L' := [some (.ref 26), some (.int (iI dp)), some (.int (iI 1)), some (.int (iI 0)), none]) (st' := []) (g1 := (HW sc ar tx oc rl ou tl, q)) rfl ?_
  exact l8 D u dp 1 0 _ r0 sc ar tx oc rl ou tl q hdu hdp hD hR hF
theorem xs_3 {K : PK} {tp : List Int} (ht : TpOK tp) (hK3 : K 3 = some (6, zA kc3)) (hK13 : K 13 = some (3, zA kc13)) {m : Nat} (hP : XP K tp m) : XC K tp (m + 1) 3 87 6 [.int (iI 0)] := by
  obtain ⟨p0, p1, p2, p3, p8, p4, p10, p5, p12, l6, l7, l8, l9, l11⟩ := hP
  intro D u dp r0 sc ar tx oc rl ou tl q hdu hdp hD hR hF
  rcases Decidable.em (r0.1 = -1) with he | hE
  · skip
    have ht1 := ht.1
    obtain ⟨⟨hs, hl⟩, hA, hZ, hW, hWr, hG⟩ := id hR
    obtain ⟨g1, g2, g3, g4⟩ := hG he
    have hw1 : sc 2602 = -1 := hW.trans he
    have hsk := sk_r (tp := tp) (p := r0.2.1) (by omega)
    have hlr := tch_r ht (sk tp r0.2.1)
    have hlk : 0 ≤ lk tp r0.2.1 ∧ lk tp r0.2.1 ≤ 255 := hlr
    have hFu : 16 * ((tp.length : Int) - r0.2.1) + 4 ≤ ((m + 1 : Nat) : Int) := hF he
    refine CQ.of (own := 7) (n := 5) (ini := false) (rt := none) (cd := cd87) (by decide +kernel) rfl (by decide +kernel) rfl (Nat.le_of_ble_eq_true rfl) ?_
    refine RQ.seg 3 (pc' := 9) (L' := [some (.ref 26), some (.int (iI dp)), some (.int (iI 0)), none, none]) (st' := [.ref 26]) (g1 := (HW sc ar tx oc rl ou tl, q)) rfl ?_
    refine RQ.call rfl rfl (CallR.up (d := 1) (x_look26 (d := 0) (sc := sc) (ar := ar) (a := r0.2.1) ht hs hl g1 (by omega)) (by omega)) ?_
    refine RQ.seg 3 (pc' := 16) (L' := [some (.ref 26), some (.int (iI dp)), some (.int (iI 0)), some (.int (iI (lk tp r0.2.1))), none]) (st' := [.int (iI 33), .int (iI (lk tp r0.2.1))]) (g1 := (HW (usc sc 2601 (sk tp r0.2.1)) ar tx oc rl ou tl, q)) rfl ?_
    refine RQ.if2 (a := (lk tp r0.2.1)) (b := 33) rfl rfl rfl rfl (by omega) (by omega) (fun (h1 : lk tp r0.2.1 ≠ 33) => ?_) (fun (h1 : ¬ lk tp r0.2.1 ≠ 33) => ?_)
    · skip
      refine RQ.seg 2 (pc' := 50) (L' := [some (.ref 26), some (.int (iI dp)), some (.int (iI 0)), some (.int (iI (lk tp r0.2.1))), none]) (st' := [.int (iI 40), .int (iI (lk tp r0.2.1))]) (g1 := (HW (usc sc 2601 (sk tp r0.2.1)) ar tx oc rl ou tl, q)) rfl ?_
      refine RQ.if2 (a := (lk tp r0.2.1)) (b := 40) rfl rfl rfl rfl (by omega) (by omega) (fun (h2 : lk tp r0.2.1 ≠ 40) => ?_) (fun (h2 : ¬ lk tp r0.2.1 ≠ 40) => ?_)
      · skip
        refine RQ.seg 4 (pc' := 84) (L' := [some (.ref 26), some (.int (iI dp)), some (.int (iI 0)), some (.int (iI (lk tp r0.2.1))), none]) (st' := [.int (iI dp), .ref 26]) (g1 := (HW (usc sc 2601 (sk tp r0.2.1)) ar tx oc rl ou tl, q)) rfl ?_
        refine RQ.callQ rfl rfl (CQ.up (p2 (D - 1) (u) (dp) (((-1, sk tp r0.2.1, r0.2.2) : RS)) _ _ _ _ _ _ _ _ (by omega) (by omega) (by omega) (RX.mv hR he (by omega)) (fun _ => by show 16 * ((tp.length : Int) - (sk tp r0.2.1)) + 3 ≤ (m : Int); omega)) (by omega)) (fun rv g1 hc9 => ?_)
        obtain ⟨rfl, sc1, ar1, rfl, hs1, ha1, hR_1⟩ := hc9
        obtain ⟨⟨hs_1, hl_1⟩, hA_1, hZ_1, hW_1, hWr_1, hG_1⟩ := id hR_1
        have hS_1 : Same ruF sc sc1 := Same.tr Same.rf (Same.tr (by repeat (first | exact Same.rf | refine Same.us rfl ?_)) hs1)
        have hT_1 : Same ruA ar ar1 := Same.tr Same.rf (Same.tr (by repeat (first | exact Same.rf | refine Same.us rfl ?_)) ha1)
        rw [show rsq r0 (rd tp (m + 1) 3 dp) = rsq (rsq (((-1, sk tp r0.2.1, r0.2.2) : RS)) (rd tp m 2 (dp))) (rd tp m 8 dp) by rw [rsq_p he, show rd tp (m + 1) 3 dp r0.2.1 = rsq (rd tp m 2 dp r0.2.1) (rd tp m 8 dp) by show rUnit tp (rd tp m) dp r0.2.1 = _; unfold rUnit; rw [if_neg (by omega), if_neg (by omega)], rsq_1, rd_sk, pre_sq]]
        refine RQ.im (l8 D u dp 0 (lk tp r0.2.1) _ (rsq (((-1, sk tp r0.2.1, r0.2.2) : RS)) (rd tp m 2 (dp))) sc1 ar1 tx oc rl ou tl q hdu hdp (by omega) hR_1 (fun z => ?_)) (fun v g h => QX.tr hS_1 hT_1 h)
        rw [rsq_1, rd_sk] at z ⊢
        have z2 : r0.2.1 + 1 ≤ (rd tp m 2 dp r0.2.1).2.1 ∧ _ := ((rd_ok (tp := tp) m).at 2 dp (a := r0.2.1) (by omega)).2 z
        show 16 * ((tp.length : Int) - (rd tp m 2 dp r0.2.1).2.1) + 1 ≤ (m : Int); omega
      · skip
        refine RQ.seg 2 (pc' := 55) (L' := [some (.ref 26), some (.int (iI dp)), some (.int (iI 0)), some (.int (iI (lk tp r0.2.1))), none]) (st' := [.int (iI dp), .ref 26]) (g1 := (HW (usc sc 2601 (sk tp r0.2.1)) ar tx oc rl ou tl, q)) rfl ?_
        have hps := lk_in (tp := tp) (a := r0.2.1) (by omega) (by omega)
        rcases Decidable.em (dp < 6) with hd6 | hd6
        · refine RQ.call rfl rfl (CallR.up (d := 2) (x_nest_t (d := 0) (sc := usc sc 2601 (sk tp r0.2.1)) (ar := ar) (by omega) (by show 0 ≤ sk tp r0.2.1 ∧ sk tp r0.2.1 ≤ 200; omega) (by show -1 ≤ sc 2602 ∧ sc 2602 ≤ 200; omega) hw1 hd6) (by omega)) ?_
          refine RQ.hp (g1 := (HW (usc sc 2601 (sk tp r0.2.1 + 1)) ar tx oc rl ou tl, q)) (HW_e (by rw [usc_uu _ 2601 _ _]; try rfl) rfl) ?_
          refine RQ.seg 6 (pc' := 66) (L' := [some (.ref 26), some (.int (iI dp)), some (.int (iI 0)), some (.int (iI (lk tp r0.2.1))), none]) (st' := [.int (iI 0), .int ((iI dp) + (iI 1)), .ref 26]) (g1 := (HW (usc sc 2601 (sk tp r0.2.1 + 1)) ar tx oc rl ou tl, q)) rfl ?_
          refine RQ.to (L' := [some (.ref 26), some (.int (iI dp)), some (.int (iI 0)), some (.int (iI (lk tp r0.2.1))), none]) (st' := [.int (iI 0), .int (iI (dp + 1)), .ref 26]) rfl (by simp only [iI_add, iI_sub, iI_mul, iI_neg]) ?_
          refine RQ.callQ rfl rfl (CQ.up (p5 (D - 1) (u - 1) (dp + 1) (((-1, sk tp r0.2.1 + 1, r0.2.2) : RS)) _ _ _ _ _ _ _ _ (by omega) (by omega) (by omega) (RX.mv hR he (by omega)) (fun _ => by show 16 * ((tp.length : Int) - (sk tp r0.2.1 + 1)) + 6 ≤ (m : Int); omega)) (by omega)) (fun rv g1 hc9 => ?_)
          obtain ⟨rfl, sc1, ar1, rfl, hs1, ha1, hR_1⟩ := hc9
          obtain ⟨⟨hs_1, hl_1⟩, hA_1, hZ_1, hW_1, hWr_1, hG_1⟩ := id hR_1
          have hS_1 : Same ruF sc sc1 := Same.tr Same.rf (Same.tr (by repeat (first | exact Same.rf | refine Same.us rfl ?_)) hs1)
          have hT_1 : Same ruA ar ar1 := Same.tr Same.rf (Same.tr (by repeat (first | exact Same.rf | refine Same.us rfl ?_)) ha1)
          refine RQ.seg 2 (pc' := 72) (L' := [some (.ref 26), some (.int (iI dp)), some (.int (iI 0)), some (.int (iI (lk tp r0.2.1))), none]) (st' := [.int (iI 41), .ref 26]) (g1 := (HW sc1 ar1 tx oc rl ou tl, q)) rfl ?_
          refine RQ.callQ rfl rfl (CQ.up (x_exp (d := 0) (r0 := rsq (((-1, sk tp r0.2.1 + 1, r0.2.2) : RS)) (rd tp m 5 (dp + 1))) (c := 41) ht hR_1 (by omega)) (by omega)) (fun rv g1 hc9 => ?_)
          obtain ⟨rfl, sc2, ar2, rfl, hs2, ha2, hR_2⟩ := hc9
          obtain ⟨⟨hs_2, hl_2⟩, hA_2, hZ_2, hW_2, hWr_2, hG_2⟩ := id hR_2
          have hS_2 : Same ruF sc sc2 := Same.tr hS_1 (Same.tr (by repeat (first | exact Same.rf | refine Same.us rfl ?_)) hs2)
          have hT_2 : Same ruA ar ar2 := Same.tr hT_1 (Same.tr (by repeat (first | exact Same.rf | refine Same.us rfl ?_)) ha2)
          refine RQ.seg 1 (pc' := 148) (L' := [some (.ref 26), some (.int (iI dp)), some (.int (iI 0)), some (.int (iI (lk tp r0.2.1))), none]) (st' := []) (g1 := (HW sc2 ar2 tx oc rl ou tl, q)) rfl ?_
          refine RQ.ret rfl rfl ?_
          rw [show rsq r0 (rd tp (m + 1) 3 dp) = rsq (rsq (((-1, sk tp r0.2.1 + 1, r0.2.2) : RS)) (rd tp m 5 (dp + 1))) (rex tp 41) by rw [rsq_p he, show rd tp (m + 1) 3 dp r0.2.1 = rsq (rd tp m 5 (dp + 1) (sk tp r0.2.1 + 1)) (rex tp 41) by show rUnit tp (rd tp m) dp r0.2.1 = _; unfold rUnit; rw [if_neg (by omega), if_pos (by omega), if_pos (by omega)], rsq_1, pre_sq]]
          exact ⟨rfl, _, _, rfl, hS_2, hT_2, hR_2⟩
        · refine RQ.call rfl rfl (CallR.up (d := 2) (x_nest_f (d := 0) (sc := usc sc 2601 (sk tp r0.2.1)) (ar := ar) (by omega) (by show 0 ≤ sk tp r0.2.1 ∧ sk tp r0.2.1 ≤ 200; omega) (by show -1 ≤ sc 2602 ∧ sc 2602 ≤ 200; omega) hw1 hd6) (by omega)) ?_
          refine RQ.seg 1 (pc' := 148) (L' := [some (.ref 26), some (.int (iI dp)), some (.int (iI 0)), some (.int (iI (lk tp r0.2.1))), none]) (st' := []) (g1 := (HW (usc (usc sc 2601 (sk tp r0.2.1)) 2602 (sk tp r0.2.1)) ar tx oc rl ou tl, q)) rfl ?_
          refine RQ.ret rfl rfl ?_
          rw [show rsq r0 (rd tp (m + 1) 3 dp) = pre r0.2.2 (rno tp r0.2.1) by rw [rsq_p he, show rd tp (m + 1) 3 dp r0.2.1 = rno tp r0.2.1 by show rUnit tp (rd tp m) dp r0.2.1 = _; unfold rUnit; rw [if_neg (by omega), if_pos (by omega), if_neg (by omega)]]]
          exact ⟨rfl, _, _, rfl, (by repeat (first | exact Same.rf | refine Same.us rfl ?_)), (by repeat (first | exact Same.rf | refine Same.us rfl ?_)), RX.no ht hR he⟩
    · skip
      refine RQ.seg 2 (pc' := 21) (L' := [some (.ref 26), some (.int (iI dp)), some (.int (iI 0)), some (.int (iI (lk tp r0.2.1))), none]) (st' := [.int (iI dp), .ref 26]) (g1 := (HW (usc sc 2601 (sk tp r0.2.1)) ar tx oc rl ou tl, q)) rfl ?_
      have hps := lk_in (tp := tp) (a := r0.2.1) (by omega) (by omega)
      rcases Decidable.em (dp < 6) with hd6 | hd6
      · refine RQ.call rfl rfl (CallR.up (d := 2) (x_nest_t (d := 0) (sc := usc sc 2601 (sk tp r0.2.1)) (ar := ar) (by omega) (by show 0 ≤ sk tp r0.2.1 ∧ sk tp r0.2.1 ≤ 200; omega) (by show -1 ≤ sc 2602 ∧ sc 2602 ≤ 200; omega) hw1 hd6) (by omega)) ?_
        refine RQ.hp (g1 := (HW (usc sc 2601 (sk tp r0.2.1 + 1)) ar tx oc rl ou tl, q)) (HW_e (by rw [usc_uu _ 2601 _ _]; try rfl) rfl) ?_
        refine RQ.seg 6 (pc' := 32) (L' := [some (.ref 26), some (.int (iI dp)), some (.int (iI 0)), some (.int (iI (lk tp r0.2.1))), none]) (st' := [.int (iI 0), .int ((iI dp) + (iI 1)), .ref 26]) (g1 := (HW (usc sc 2601 (sk tp r0.2.1 + 1)) ar tx oc rl ou tl, q)) rfl ?_
        refine RQ.to (L' := [some (.ref 26), some (.int (iI dp)), some (.int (iI 0)), some (.int (iI (lk tp r0.2.1))), none]) (st' := [.int (iI 0), .int (iI (dp + 1)), .ref 26]) rfl (by simp only [iI_add, iI_sub, iI_mul, iI_neg]) ?_
        refine RQ.callQ rfl rfl (CQ.up (p3 (D - 1) (u - 1) (dp + 1) (((-1, sk tp r0.2.1 + 1, r0.2.2) : RS)) _ _ _ _ _ _ _ _ (by omega) (by omega) (by omega) (RX.mv hR he (by omega)) (fun _ => by show 16 * ((tp.length : Int) - (sk tp r0.2.1 + 1)) + 4 ≤ (m : Int); omega)) (by omega)) (fun rv g1 hc9 => ?_)
        obtain ⟨rfl, sc1, ar1, rfl, hs1, ha1, hR_1⟩ := hc9
        obtain ⟨⟨hs_1, hl_1⟩, hA_1, hZ_1, hW_1, hWr_1, hG_1⟩ := id hR_1
        have hS_1 : Same ruF sc sc1 := Same.tr Same.rf (Same.tr (by repeat (first | exact Same.rf | refine Same.us rfl ?_)) hs1)
        have hT_1 : Same ruA ar ar1 := Same.tr Same.rf (Same.tr (by repeat (first | exact Same.rf | refine Same.us rfl ?_)) ha1)
        refine RQ.seg 3 (pc' := 41) (L' := [some (.ref 26), some (.int (iI dp)), some (.int (iI 0)), some (.int (iI (lk tp r0.2.1))), none]) (st' := [.int (iI (-8)), .ref 27]) (g1 := (HW sc1 ar1 tx oc rl ou tl, q)) rfl ?_
        refine RQ.callQ rfl rfl (CQ.up (x_app (d := 0) (r0 := rsq (((-1, sk tp r0.2.1 + 1, r0.2.2) : RS)) (rd tp m 3 (dp + 1))) (x := (-8)) ht hR_1 (by omega) (by rw [rsq_1]; exact pre_sl ((rd_ok (tp := tp) m).at 3 (dp + 1) (a := sk tp r0.2.1 + 1) (by omega)) (by omega))) (by omega)) (fun rv g1 hc9 => ?_)
        obtain ⟨rfl, sc2, ar2, rfl, hs2, ha2, hR_2⟩ := hc9
        obtain ⟨⟨hs_2, hl_2⟩, hA_2, hZ_2, hW_2, hWr_2, hG_2⟩ := id hR_2
        have hS_2 : Same ruF sc sc2 := Same.tr hS_1 (Same.tr (by repeat (first | exact Same.rf | refine Same.us rfl ?_)) hs2)
        have hT_2 : Same ruA ar ar2 := Same.tr hT_1 (Same.tr (by repeat (first | exact Same.rf | refine Same.us rfl ?_)) ha2)
        refine RQ.seg 1 (pc' := 148) (L' := [some (.ref 26), some (.int (iI dp)), some (.int (iI 0)), some (.int (iI (lk tp r0.2.1))), none]) (st' := []) (g1 := (HW sc2 ar2 tx oc rl ou tl, q)) rfl ?_
        refine RQ.ret rfl rfl ?_
        rw [show rsq r0 (rd tp (m + 1) 3 dp) = rap (rsq (((-1, sk tp r0.2.1 + 1, r0.2.2) : RS)) (rd tp m 3 (dp + 1))) ((-8)) by rw [rsq_p he, show rd tp (m + 1) 3 dp r0.2.1 = rap (rd tp m 3 (dp + 1) (sk tp r0.2.1 + 1)) (-8) by show rUnit tp (rd tp m) dp r0.2.1 = _; unfold rUnit; rw [if_pos (by omega), if_pos (by omega)], rsq_1, pre_ap]]
        exact ⟨rfl, _, _, rfl, hS_2, hT_2, hR_2⟩
      · refine RQ.call rfl rfl (CallR.up (d := 2) (x_nest_f (d := 0) (sc := usc sc 2601 (sk tp r0.2.1)) (ar := ar) (by omega) (by show 0 ≤ sk tp r0.2.1 ∧ sk tp r0.2.1 ≤ 200; omega) (by show -1 ≤ sc 2602 ∧ sc 2602 ≤ 200; omega) hw1 hd6) (by omega)) ?_
        refine RQ.seg 1 (pc' := 148) (L' := [some (.ref 26), some (.int (iI dp)), some (.int (iI 0)), some (.int (iI (lk tp r0.2.1))), none]) (st' := []) (g1 := (HW (usc (usc sc 2601 (sk tp r0.2.1)) 2602 (sk tp r0.2.1)) ar tx oc rl ou tl, q)) rfl ?_
        refine RQ.ret rfl rfl ?_
        rw [show rsq r0 (rd tp (m + 1) 3 dp) = pre r0.2.2 (rno tp r0.2.1) by rw [rsq_p he, show rd tp (m + 1) 3 dp r0.2.1 = rno tp r0.2.1 by show rUnit tp (rd tp m) dp r0.2.1 = _; unfold rUnit; rw [if_pos (by omega), if_neg (by omega)]]]
        exact ⟨rfl, _, _, rfl, (by repeat (first | exact Same.rf | refine Same.us rfl ?_)), (by repeat (first | exact Same.rf | refine Same.us rfl ?_)), RX.no ht hR he⟩
  · rw [rsq_b hE]; exact CQ.up (x_unitB0 (d := 0) (dp := dp) (by omega) ht hR hE hK13) (by omega)
theorem xz_c0 {K : PK} {tp : List Int} (ht : TpOK tp) (hK3 : K 3 = some (6, zA kc3)) (hK13 : K 13 = some (3, zA kc13)) : XC K tp 0 0 90 3 [] := XC.zero (fun D u dp r0 sc ar tx oc rl ou tl q hdu hdp hD hR hE => CQ.up (x_atomB (d := 0) (dp := dp) (by omega) ht hR hE) (by omega))
theorem xz_c1 {K : PK} {tp : List Int} (ht : TpOK tp) (hK3 : K 3 = some (6, zA kc3)) (hK13 : K 13 = some (3, zA kc13)) : XC K tp 0 1 89 4 [] := XC.zero (fun D u dp r0 sc ar tx oc rl ou tl q hdu hdp hD hR hE => CQ.up (x_termB (d := 0) (dp := dp) (by omega) ht hR hE) (by omega))
theorem xz_c2 {K : PK} {tp : List Int} (ht : TpOK tp) (hK3 : K 3 = some (6, zA kc3)) (hK13 : K 13 = some (3, zA kc13)) : XC K tp 0 2 88 5 [] := XC.zero (fun D u dp r0 sc ar tx oc rl ou tl q hdu hdp hD hR hE => CQ.up (x_sumB (d := 0) (dp := dp) (by omega) ht hR hE) (by omega))
theorem xz_c3 {K : PK} {tp : List Int} (ht : TpOK tp) (hK3 : K 3 = some (6, zA kc3)) (hK13 : K 13 = some (3, zA kc13)) : XC K tp 0 3 87 6 [.int (iI 0)] := XC.zero (fun D u dp r0 sc ar tx oc rl ou tl q hdu hdp hD hR hE => CQ.up (x_unitB0 (d := 0) (dp := dp) (by omega) ht hR hE hK13) (by omega))
theorem xz_c4 {K : PK} {tp : List Int} (ht : TpOK tp) (hK3 : K 3 = some (6, zA kc3)) (hK13 : K 13 = some (3, zA kc13)) : XC K tp 0 4 86 7 [.int (iI 0)] := XC.zero (fun D u dp r0 sc ar tx oc rl ou tl q hdu hdp hD hR hE => CQ.up (x_truthB0 (d := 0) (dp := dp) (by omega) ht hR hE hK13) (by omega))
theorem xz_c10 {K : PK} {tp : List Int} (ht : TpOK tp) (hK3 : K 3 = some (6, zA kc3)) (hK13 : K 13 = some (3, zA kc13)) : XC K tp 0 10 86 7 [.int (iI 1)] := XC.zero (fun D u dp r0 sc ar tx oc rl ou tl q hdu hdp hD hR hE => CQ.up (x_truthB1 (d := 0) (dp := dp) (by omega) ht hR hE hK13) (by omega))
theorem xz_c5 {K : PK} {tp : List Int} (ht : TpOK tp) (hK3 : K 3 = some (6, zA kc3)) (hK13 : K 13 = some (3, zA kc13)) : XC K tp 0 5 85 8 [.int (iI 0)] := XC.zero (fun D u dp r0 sc ar tx oc rl ou tl q hdu hdp hD hR hE => CQ.up (x_condB0 (d := 0) (dp := dp) (by omega) ht hR hE hK13) (by omega))
theorem xz_c12 {K : PK} {tp : List Int} (ht : TpOK tp) (hK3 : K 3 = some (6, zA kc3)) (hK13 : K 13 = some (3, zA kc13)) : XC K tp 0 12 85 8 [.int (iI 1)] := XC.zero (fun D u dp r0 sc ar tx oc rl ou tl q hdu hdp hD hR hE => CQ.up (x_condB1 (d := 0) (dp := dp) (by omega) ht hR hE hK13) (by omega))
theorem xp_all {K : PK} {tp : List Int} (ht : TpOK tp) (hK3 : K 3 = some (6, zA kc3)) (hK13 : K 13 = some (3, zA kc13)) : ∀ m, XP K tp m
  | 0 => ⟨xz_c0 ht hK3 hK13, xz_c1 ht hK3 hK13, xz_c2 ht hK3 hK13, xz_c3 ht hK3 hK13, xs_8 ht hK3 hK13 (xz_8 (m := 0) ht hK3 hK13), xz_c4 ht hK3 hK13, xz_c10 ht hK3 hK13, xz_c5 ht hK3 hK13, xz_c12 ht hK3 hK13, xz_6 (m := 0) ht hK3 hK13, xz_7 (m := 0) ht hK3 hK13, xz_8 (m := 0) ht hK3 hK13, xz_9 (m := 0) ht hK3 hK13, xz_11 (m := 0) ht hK3 hK13⟩
  | m + 1 => by
    have hP := xp_all ht hK3 hK13 m
    exact ⟨xs_0 ht hK3 hK13 hP, xs_1 ht hK3 hK13 hP, xs_2 ht hK3 hK13 hP, xs_3 ht hK3 hK13 hP, xs_8 ht hK3 hK13 (xl_8 ht hK3 hK13 hP), xs_4 ht hK3 hK13 hP, xs_10 ht hK3 hK13 hP, xs_5 ht hK3 hK13 hP, xs_12 ht hK3 hK13 hP, xl_6 ht hK3 hK13 hP, xl_7 ht hK3 hK13 hP, xl_8 ht hK3 hK13 hP, xl_9 ht hK3 hK13 hP, xl_11 ht hK3 hK13 hP⟩
