/-! the reference finds the first wrong byte of a front, by wip/tools -/
/-! the reference finds the first wrong byte of a front -/
theorem TvM.sm {tp : List Int} {bg N : Int} {sc sc' : Nat → Int} {ar ar' : Nat → Int → Int} (h1 : Same frS sc sc') (h2 : Same scA ar ar') (hv : TvM tp bg N (sc 8008) (sc 8009) (ar 81)) : TvM tp bg N (sc' 8008) (sc' 8009) (ar' 81) := by
  rw [h1 8008 rfl, h1 8009 rfl, h2 81 rfl]
  exact hv
theorem frS_scF {sc sc' : Nat → Int} (h : Same frS sc sc') : Same scF sc sc' := Same.w rfl h
theorem lk_0 {tp : List Int} (ht : TpOK tp) {p : Int} (hp : 0 ≤ p ∧ p ≤ (tp.length : Int)) (h : lk tp p = 0) : sk tp p = (tp.length : Int) := by
  have hs := sk_r hp.2
  rcases Decidable.em (sk tp p < (tp.length : Int)) with z | z
  · have := tch_1 ht (p := sk tp p) ⟨by omega, z⟩
    have h' : tch tp (sk tp p) = 0 := h
    omega
  · omega
theorem m_ff_l {K : PK} {d : Nat} {oc : Nat} {rl : Nat → Option Nat} {ou : Nat → Int64} {tl : List PO} {q : Nat × Nat} {Q : Option Value → PG → Prop} {tp : List Int} (ht : TpOK tp) : ∀ (m n : Nat) (S : FS) (sc : Nat → Int) (ar : Nat → Int → Int) (hm : n + m = 9) (hv : TvM tp 0 160 (sc 8008) (sc 8009) (ar 81)) (hS : FsOK tp S) (hX : FdM S sc ar) (h0 : sc 8011 = -1) (he : fE S = -1) (hc : fW S + fB S + fL S = n) (hk : ∀ sc' ar', Same frS sc sc' → Same scA ar ar' → sc' 8011 = rfr tp (frn tp m S) → (rfr tp (frn tp m S) = -1 → FdM (frn tp m S) sc' ar') → (-1 ≤ sc' 8011 ∧ sc' 8011 ≤ 160) → Q none (HW sc' ar' 81 oc rl ou tl, q)), RQ K (d + 6) 11 false none cd181 55 [some (.ref 80), some (.int (iI 1))] [] (HW sc ar 81 oc rl ou tl, q) Q
  | 0, n, S, sc, ar, hm, hv, hS, hX, h0, he, hc, hk => by
    have hS2 := hS.2.1
    have hS3 := hS.2.2.1
    have hS4 := hS.2.2.2.1
    exfalso
    omega
  | m + 1, n, S, sc, ar, hm, hv, hS, hX, h0, he, hc, hk => by
    have ht1 := ht.1
    obtain ⟨⟨hT, hTc, hTd⟩, hTe⟩ := clz_ok hS
    have hT1 := hT.1
    have hT2 := hT.2.1
    have hT3 := hT.2.2.1
    have hT4 := hT.2.2.2.1
    refine RQ.seg 5 (pc' := 64) (L' := [some (.ref 80), some (.int (iI 1))]) (st' := [.int (iI (-1)), .int (iI (sc 8011))]) (g1 := (HW sc ar 81 oc rl ou tl, q)) rfl ?_
    refine RQ.if2 (a := (sc 8011)) (b := (-1)) rfl rfl rfl rfl (by omega) (by omega) (fun (q : sc 8011 ≠ (-1)) => absurd q (show ¬ sc 8011 ≠ (-1) from by omega)) (fun _ => ?_)
    refine RQ.seg 1 (pc' := 68) (L' := [some (.ref 80), some (.int (iI 1))]) (st' := [.ref 80]) (g1 := (HW sc ar 81 oc rl ou tl, q)) rfl ?_
    refine RQ.callQ rfl rfl (m_fclause ht hv hS hX h0) (fun rv g1 hc9 => ?_)
    obtain ⟨rfl, sc1, ar1, rfl, hs1, ha1, e1, hX1, ra1, rw1⟩ := hc9
    have hv1 := TvM.sm hs1 ha1 hv
    rcases Decidable.em (fE (cls tp S) = -1) with hfe | hfe
    · skip
      have hX2 := hX1 hfe
      have hA2 : sc1 8010 = fA (cls tp S) := hX2.1
      have hW2 : sc1 8026 = fW (cls tp S) := hX2.2.2.1
      have hB2 : sc1 8027 = fB (cls tp S) := hX2.2.2.2.1
      have hcn := hTd hfe
      have hsk := sk_r (tp := tp) hT1.2
      have hlr := tch_r ht (sk tp (fA (cls tp S)))
      have hlk : 0 ≤ lk tp (fA (cls tp S)) ∧ lk tp (fA (cls tp S)) ≤ 255 := hlr
      have hlm := lkm_r hlk
      refine RQ.seg 3 (pc' := 76) (L' := [some (.ref 80), some (.int (iI 1))]) (st' := [.int (iI (-1)), .int (iI (sc1 8011))]) (g1 := (HW sc1 ar1 81 oc rl ou tl, q)) rfl ?_
      refine RQ.if2 (a := (sc1 8011)) (b := (-1)) rfl rfl rfl rfl (by omega) (by omega) (fun (q : sc1 8011 ≠ (-1)) => absurd q (show ¬ sc1 8011 ≠ (-1) from by omega)) (fun _ => ?_)
      refine RQ.seg 1 (pc' := 80) (L' := [some (.ref 80), some (.int (iI 1))]) (st' := [.ref 80]) (g1 := (HW sc1 ar1 81 oc rl ou tl, q)) rfl ?_
      refine RQ.call rfl rfl (CallR.up (d := 1) (m_look81 (d := 0) (sc := sc1) (ar := ar1) (a := fA (cls tp S)) ht hv1 hA2 (by omega)) (by omega)) ?_
      refine RQ.seg 1 (pc' := 85) (L' := [some (.ref 80), some (.int (iI 1))]) (st' := [.int (iI 59), .int (iI (lkm (lk tp (fA (cls tp S)))))]) (g1 := (HW (usc sc1 8010 (sk tp (fA (cls tp S)))) ar1 81 oc rl ou tl, q)) rfl ?_
      refine RQ.if2 (a := (lkm (lk tp (fA (cls tp S))))) (b := 59) rfl rfl rfl rfl (by omega) (by omega) (fun (h3 : lkm (lk tp (fA (cls tp S))) ≠ 59) => ?_) (fun (h3 : ¬ lkm (lk tp (fA (cls tp S))) ≠ 59) => ?_)
      · skip
        refine RQ.seg 4 (pc' := 55) (L' := [some (.ref 80), some (.int (iI 0))]) (st' := []) (g1 := (HW (usc sc1 8010 (sk tp (fA (cls tp S)))) ar1 81 oc rl ou tl, q)) rfl ?_
        refine RQ.seg 5 (pc' := 116) (L' := [some (.ref 80), some (.int (iI 0))]) (st' := [.int (iI (-1)), .int (iI (sc1 8011))]) (g1 := (HW (usc sc1 8010 (sk tp (fA (cls tp S)))) ar1 81 oc rl ou tl, q)) rfl ?_
        refine RQ.if2 (a := (sc1 8011)) (b := (-1)) rfl rfl rfl rfl (by omega) (by omega) (fun (q : sc1 8011 ≠ (-1)) => absurd q (show ¬ sc1 8011 ≠ (-1) from by omega)) (fun _ => ?_)
        refine RQ.seg 1 (pc' := 120) (L' := [some (.ref 80), some (.int (iI 0))]) (st' := [.ref 80]) (g1 := (HW (usc sc1 8010 (sk tp (fA (cls tp S)))) ar1 81 oc rl ou tl, q)) rfl ?_
        have hcall := CallR.up (d' := d + 6) (m_look81 (K := K) (d := 0) (oc := oc) (rl := rl) (ou := ou) (tl := tl) (q := q) (sc := usc sc1 8010 (sk tp (fA (cls tp S)))) (ar := ar1) (a := sk tp (fA (cls tp S))) ht hv1 rfl (by omega)) (by omega)
        rw [show lk tp (sk tp (fA (cls tp S))) = lk tp (fA (cls tp S)) by unfold lk; rw [sk_sk], sk_sk] at hcall
        refine RQ.call rfl rfl hcall ?_
        refine RQ.hp (g1 := (HW (usc sc1 8010 (sk tp (fA (cls tp S)))) ar1 81 oc rl ou tl, q)) (HW_e (by rw [usc_uu _ 8010 _ _]; try rfl) rfl) ?_
        refine RQ.seg 1 (pc' := 124) (L' := [some (.ref 80), some (.int (iI 0))]) (st' := [.int (iI (-1)), .int (iI (lkm (lk tp (fA (cls tp S)))))]) (g1 := (HW (usc sc1 8010 (sk tp (fA (cls tp S)))) ar1 81 oc rl ou tl, q)) rfl ?_
        refine RQ.if2 (a := (lkm (lk tp (fA (cls tp S))))) (b := (-1)) rfl rfl rfl rfl (by omega) (by omega) (fun (h5 : lkm (lk tp (fA (cls tp S))) ≠ (-1)) => ?_) (fun (h5 : ¬ lkm (lk tp (fA (cls tp S))) ≠ (-1)) => ?_)
        · skip
          refine RQ.seg 1 (pc' := 142) (L' := [some (.ref 80), some (.int (iI 0))]) (st' := [.ref 80]) (g1 := (HW (usc sc1 8010 (sk tp (fA (cls tp S)))) ar1 81 oc rl ou tl, q)) rfl ?_
          have hcall := CallR.up (d' := d + 6) (m_fails (K := K) (d := 0) (tx := 81) (oc := oc) (rl := rl) (ou := ou) (tl := tl) (q := q) (sc := usc sc1 8010 (sk tp (fA (cls tp S)))) (ar := ar1) (by show -1 ≤ sc1 8011 ∧ sc1 8011 ≤ 200; omega)) (by omega)
          rw [show (if (usc sc1 8010 (sk tp (fA (cls tp S)))) 8011 = -1 then (usc sc1 8010 (sk tp (fA (cls tp S)))) 8010 else (usc sc1 8010 (sk tp (fA (cls tp S)))) 8011) = sk tp (fA (cls tp S)) from if_pos (show sc1 8011 = -1 by omega)] at hcall
          refine RQ.call rfl rfl hcall ?_
          refine RQ.seg 1 (pc' := 146) (L' := [some (.ref 80), some (.int (iI 0))]) (st' := []) (g1 := (HW (usc (usc sc1 8010 (sk tp (fA (cls tp S)))) 8011 (sk tp (fA (cls tp S)))) ar1 81 oc rl ou tl, q)) rfl ?_
          refine RQ.ret rfl rfl ?_
          have hfr : frn tp (m + 1) S = fAt (cls tp S) (sk tp (fA (cls tp S))) (sk tp (fA (cls tp S))) := by rw [frn, if_neg (by omega), if_neg (by omega), if_neg (by omega)]
          have e9 : rfr tp (frn tp (m + 1) S) = sk tp (fA (cls tp S)) := by rw [hfr]; exact rfr_e (by show sk tp (fA (cls tp S)) ≠ -1; omega)
          rw [e9] at hk
          exact hk _ _ (Same.tr hs1 (by repeat (first | exact Same.rf | refine Same.us rfl ?_))) ha1 rfl (fun z => absurd z (by omega)) (by show -1 ≤ sk tp (fA (cls tp S)) ∧ sk tp (fA (cls tp S)) ≤ 160; omega)
        · skip
          refine RQ.seg 2 (pc' := 131) (L' := [some (.ref 80), some (.int (iI 0))]) (st' := [.int (iI (sc1 8026))]) (g1 := (HW (usc sc1 8010 (sk tp (fA (cls tp S)))) ar1 81 oc rl ou tl, q)) rfl ?_
          refine RQ.if1 (a := (sc1 8026)) rfl rfl rfl (by omega) (fun (h6 : sc1 8026 = 0) => ?_) (fun (h6 : ¬ sc1 8026 = 0) => ?_)
          · skip
            refine RQ.seg 1 (pc' := 142) (L' := [some (.ref 80), some (.int (iI 0))]) (st' := [.ref 80]) (g1 := (HW (usc sc1 8010 (sk tp (fA (cls tp S)))) ar1 81 oc rl ou tl, q)) rfl ?_
            have hcall := CallR.up (d' := d + 6) (m_fails (K := K) (d := 0) (tx := 81) (oc := oc) (rl := rl) (ou := ou) (tl := tl) (q := q) (sc := usc sc1 8010 (sk tp (fA (cls tp S)))) (ar := ar1) (by show -1 ≤ sc1 8011 ∧ sc1 8011 ≤ 200; omega)) (by omega)
            rw [show (if (usc sc1 8010 (sk tp (fA (cls tp S)))) 8011 = -1 then (usc sc1 8010 (sk tp (fA (cls tp S)))) 8010 else (usc sc1 8010 (sk tp (fA (cls tp S)))) 8011) = sk tp (fA (cls tp S)) from if_pos (show sc1 8011 = -1 by omega)] at hcall
            refine RQ.call rfl rfl hcall ?_
            refine RQ.seg 1 (pc' := 146) (L' := [some (.ref 80), some (.int (iI 0))]) (st' := []) (g1 := (HW (usc (usc sc1 8010 (sk tp (fA (cls tp S)))) 8011 (sk tp (fA (cls tp S)))) ar1 81 oc rl ou tl, q)) rfl ?_
            refine RQ.ret rfl rfl ?_
            have hfr : frn tp (m + 1) S = fAt (cls tp S) (-1) (sk tp (fA (cls tp S))) := by rw [frn, if_neg (by omega), if_pos (by omega)]
            have el := lk_0 ht (p := fA (cls tp S)) (by omega) (by omega)
            have e9 : rfr tp (frn tp (m + 1) S) = sk tp (fA (cls tp S)) := by rw [hfr]; exact (rfr_n rfl (by show fW (cls tp S) = 0 ∨ fB (cls tp S) = 0; omega)).trans el.symm
            rw [e9] at hk
            exact hk _ _ (Same.tr hs1 (by repeat (first | exact Same.rf | refine Same.us rfl ?_))) ha1 rfl (fun z => absurd z (by omega)) (by show -1 ≤ sk tp (fA (cls tp S)) ∧ sk tp (fA (cls tp S)) ≤ 160; omega)
          · skip
            refine RQ.seg 2 (pc' := 138) (L' := [some (.ref 80), some (.int (iI 0))]) (st' := [.int (iI (sc1 8027))]) (g1 := (HW (usc sc1 8010 (sk tp (fA (cls tp S)))) ar1 81 oc rl ou tl, q)) rfl ?_
            refine RQ.if1 (a := (sc1 8027)) rfl rfl rfl (by omega) (fun (h7 : sc1 8027 ≠ 0) => ?_) (fun (h7 : ¬ sc1 8027 ≠ 0) => ?_)
            · skip
              refine RQ.ret rfl rfl ?_
              have hfr : frn tp (m + 1) S = fAt (cls tp S) (-1) (sk tp (fA (cls tp S))) := by rw [frn, if_neg (by omega), if_pos (by omega)]
              have e9 : rfr tp (frn tp (m + 1) S) = -1 := by rw [hfr]; exact rfr_g rfl (by show ¬ (fW (cls tp S) = 0 ∨ fB (cls tp S) = 0); omega)
              rw [e9, hfr] at hk
              exact hk _ _ (Same.tr hs1 (by repeat (first | exact Same.rf | refine Same.us rfl ?_))) ha1 (by show sc1 8011 = -1; omega) (fun _ => ⟨rfl, hX2.2⟩) (by show -1 ≤ sc1 8011 ∧ sc1 8011 ≤ 160; omega)
            · skip
              refine RQ.seg 1 (pc' := 142) (L' := [some (.ref 80), some (.int (iI 0))]) (st' := [.ref 80]) (g1 := (HW (usc sc1 8010 (sk tp (fA (cls tp S)))) ar1 81 oc rl ou tl, q)) rfl ?_
              have hcall := CallR.up (d' := d + 6) (m_fails (K := K) (d := 0) (tx := 81) (oc := oc) (rl := rl) (ou := ou) (tl := tl) (q := q) (sc := usc sc1 8010 (sk tp (fA (cls tp S)))) (ar := ar1) (by show -1 ≤ sc1 8011 ∧ sc1 8011 ≤ 200; omega)) (by omega)
              rw [show (if (usc sc1 8010 (sk tp (fA (cls tp S)))) 8011 = -1 then (usc sc1 8010 (sk tp (fA (cls tp S)))) 8010 else (usc sc1 8010 (sk tp (fA (cls tp S)))) 8011) = sk tp (fA (cls tp S)) from if_pos (show sc1 8011 = -1 by omega)] at hcall
              refine RQ.call rfl rfl hcall ?_
              refine RQ.seg 1 (pc' := 146) (L' := [some (.ref 80), some (.int (iI 0))]) (st' := []) (g1 := (HW (usc (usc sc1 8010 (sk tp (fA (cls tp S)))) 8011 (sk tp (fA (cls tp S)))) ar1 81 oc rl ou tl, q)) rfl ?_
              refine RQ.ret rfl rfl ?_
              have hfr : frn tp (m + 1) S = fAt (cls tp S) (-1) (sk tp (fA (cls tp S))) := by rw [frn, if_neg (by omega), if_pos (by omega)]
              have el := lk_0 ht (p := fA (cls tp S)) (by omega) (by omega)
              have e9 : rfr tp (frn tp (m + 1) S) = sk tp (fA (cls tp S)) := by rw [hfr]; exact (rfr_n rfl (by show fW (cls tp S) = 0 ∨ fB (cls tp S) = 0; omega)).trans el.symm
              rw [e9] at hk
              exact hk _ _ (Same.tr hs1 (by repeat (first | exact Same.rf | refine Same.us rfl ?_))) ha1 rfl (fun z => absurd z (by omega)) (by show -1 ≤ sk tp (fA (cls tp S)) ∧ sk tp (fA (cls tp S)) ≤ 160; omega)
      · skip
        refine RQ.seg 10 (pc' := 105) (L' := [some (.ref 80), some (.int (iI 1))]) (st' := [.int ((iI (sk tp (fA (cls tp S)))) + (iI 1)), .ref 80]) (g1 := (HW (usc sc1 8010 (sk tp (fA (cls tp S)))) ar1 81 oc rl ou tl, q)) rfl ?_
        refine RQ.to (L' := [some (.ref 80), some (.int (iI 1))]) (st' := [.int (iI (sk tp (fA (cls tp S)) + 1)), .ref 80]) rfl (by simp only [iI_add, iI_sub, iI_mul, iI_neg]) ?_
        refine RQ.seg 2 (pc' := 55) (L' := [some (.ref 80), some (.int (iI 1))]) (st' := []) (g1 := (HW (usc sc1 8010 (sk tp (fA (cls tp S)) + 1)) ar1 81 oc rl ou tl, q)) rfl ?_
        have h59 : lk tp (fA (cls tp S)) = 59 := by omega
        have hfr : frn tp (m + 1) S = frn tp m (fAt (cls tp S) (-1) (sk tp (fA (cls tp S)) + 1)) := by rw [frn, if_neg (by omega), if_neg (by omega), if_pos h59]
        rw [hfr] at hk
        have hkp := tch_pos (tp := tp) (p := sk tp (fA (cls tp S))) (by show lk tp (fA (cls tp S)) ≠ 0; omega)
        exact m_ff_l ht m (n + 1) (fAt (cls tp S) (-1) (sk tp (fA (cls tp S)) + 1)) (usc sc1 8010 (sk tp (fA (cls tp S)) + 1)) ar1 (by omega) hv1 (hT.at (by omega)) ⟨rfl, hX2.2⟩ (by show sc1 8011 = -1; omega) rfl (by show fW (cls tp S) + fB (cls tp S) + fL (cls tp S) = _; omega) (fun sc' ar' z1 z2 z3 z4 z5 => hk sc' ar' (Same.tr hs1 (Same.tr (Same.us rfl Same.rf) z1)) (ha1.tr z2) z3 z4 z5)
    · skip
      have hwn : ¬ sc1 8011 = -1 := by omega
      have hfr : frn tp (m + 1) S = cls tp S := by rw [frn, if_pos hfe]
      refine RQ.seg 3 (pc' := 76) (L' := [some (.ref 80), some (.int (iI 1))]) (st' := [.int (iI (-1)), .int (iI (sc1 8011))]) (g1 := (HW sc1 ar1 81 oc rl ou tl, q)) rfl ?_
      refine RQ.if2 (a := (sc1 8011)) (b := (-1)) rfl rfl rfl rfl (by omega) (by omega) (fun _ => ?_) (fun (q : ¬ sc1 8011 ≠ (-1)) => absurd (show sc1 8011 ≠ (-1) from by omega) q)
      refine RQ.seg 4 (pc' := 55) (L' := [some (.ref 80), some (.int (iI 0))]) (st' := []) (g1 := (HW sc1 ar1 81 oc rl ou tl, q)) rfl ?_
      refine RQ.seg 5 (pc' := 116) (L' := [some (.ref 80), some (.int (iI 0))]) (st' := [.int (iI (-1)), .int (iI (sc1 8011))]) (g1 := (HW sc1 ar1 81 oc rl ou tl, q)) rfl ?_
      refine RQ.if2 (a := (sc1 8011)) (b := (-1)) rfl rfl rfl rfl (by omega) (by omega) (fun _ => ?_) (fun (q : ¬ sc1 8011 ≠ (-1)) => absurd (show sc1 8011 ≠ (-1) from by omega) q)
      refine RQ.ret rfl rfl ?_
      rw [hfr] at hk
      have e9 : rfr tp (cls tp S) = sc1 8011 := by rw [rfr_e hfe]; exact e1.symm
      rw [e9] at hk
      exact hk _ _ hs1 ha1 rfl (fun z => absurd z hwn) (by omega)
theorem m_opens81 {K : PK} {d : Nat} {sc : Nat → Int} {ar : Nat → Int → Int} {tx oc : Nat} {rl : Nat → Option Nat} {ou : Nat → Int64} {tl : List PO} {q : Nat × Nat} {b e : Int} : CallR K (d + 1) 172 [.ref 80, .ref 81, .int (iI b), .int (iI e)] (HW sc ar tx oc rl ou tl, q) none (HW (usc (usc (usc (usc sc 8008 b) 8009 e) 8010 0) 8011 (-1)) ar 81 oc rl ou tl, q) := by
  apply CQ.x
  refine CQ.of (own := 11) (n := 4) (ini := false) (rt := none) (cd := cd172) (by decide +kernel) rfl (by decide +kernel) rfl (Nat.le_of_ble_eq_true rfl) ?_
  refine RQ.seg 15 (pc' := 25) (L' := [some (.ref 80), some (.ref 81), some (.int (iI b)), some (.int (iI e))]) (st' := []) (g1 := (HW (usc (usc (usc (usc sc 8008 b) 8009 e) 8010 0) 8011 (-1)) ar 81 oc rl ou tl, q)) rfl ?_
  refine RQ.ret rfl rfl ?_
  exact ⟨rfl, rfl⟩
theorem m_opens82 {K : PK} {d : Nat} {sc : Nat → Int} {ar : Nat → Int → Int} {tx oc : Nat} {rl : Nat → Option Nat} {ou : Nat → Int64} {tl : List PO} {q : Nat × Nat} {b e : Int} : CallR K (d + 1) 172 [.ref 80, .ref 82, .int (iI b), .int (iI e)] (HW sc ar tx oc rl ou tl, q) none (HW (usc (usc (usc (usc sc 8008 b) 8009 e) 8010 0) 8011 (-1)) ar 82 oc rl ou tl, q) := by
  apply CQ.x
  refine CQ.of (own := 11) (n := 4) (ini := false) (rt := none) (cd := cd172) (by decide +kernel) rfl (by decide +kernel) rfl (Nat.le_of_ble_eq_true rfl) ?_
  refine RQ.seg 15 (pc' := 25) (L' := [some (.ref 80), some (.ref 82), some (.int (iI b)), some (.int (iI e))]) (st' := []) (g1 := (HW (usc (usc (usc (usc sc 8008 b) 8009 e) 8010 0) 8011 (-1)) ar 82 oc rl ou tl, q)) rfl ?_
  refine RQ.ret rfl rfl ?_
  exact ⟨rfl, rfl⟩
theorem m_ffront {K : PK} {d : Nat} {sc : Nat → Int} {ar : Nat → Int → Int} {tx oc : Nat} {rl : Nat → Option Nat} {ou : Nat → Int64} {tl : List PO} {q : Nat × Nat} {tp : List Int} (ht : TpOK tp) (hs : sc 8006 = (tp.length : Int)) (hl : LAt sgb (ar 81) tp) : CQ K (d + 7) 181 [.ref 80] (HW sc ar tx oc rl ou tl, q) (fun r g' => r = none ∧ ∃ sc' ar', g' = (HW sc' ar' 81 oc rl ou tl, q) ∧ Same scF sc sc' ∧ Same scA ar ar' ∧ sc' 8011 = frF tp ∧ (frF tp = -1 → FdM (fr9 tp) sc' ar') ∧ (-1 ≤ sc' 8011 ∧ sc' 8011 ≤ 160)) := by
  have ht1 := ht.1
  refine CQ.of (own := 11) (n := 2) (ini := false) (rt := none) (cd := cd181) (by decide +kernel) rfl (by decide +kernel) rfl (Nat.le_of_ble_eq_true rfl) ?_
  refine RQ.seg 6 (pc' := 10) (L' := [some (.ref 80), none]) (st' := [.int (iI (sc 8006)), .int (iI 0), .ref 81, .ref 80]) (g1 := (HW sc ar tx oc rl ou tl, q)) rfl ?_
  refine RQ.call rfl rfl (CallR.up (d := 1) (m_opens81 (d := 0)) (by omega)) ?_
  refine RQ.seg 19 (pc' := 43) (L' := [some (.ref 80), some (.int (iI 0))]) (st' := [.int (iI 0), .int (iI 108), .int (iI 0), .ref 90]) (g1 := (HW (usc (usc (usc (usc (usc (usc (usc sc 8008 0) 8009 (sc 8006)) 8010 0) 8011 (-1)) 8026 0) 8027 0) 8028 0) ar 81 oc rl ou tl, q)) rfl ?_
  refine RQ.call rfl rfl (CallR.up (d := 1) (m_usual_l (d := 0) (c := 108) (j := 0) rfl (by omega)) (by omega)) ?_
  refine RQ.iast (z := 0) (v := (kc4 0)) (g1 := (HW (usc (usc (usc (usc (usc (usc (usc sc 8008 0) 8009 (sc 8006)) 8010 0) 8011 (-1)) 8026 0) 8027 0) 8028 0) (usc ar 90 (usz (ar 90) 0 (kc4 0))) 81 oc rl ou tl, q)) rfl rfl rfl rfl (by omega) (by decide) (HWa_90 rfl) ?_
  refine RQ.seg 10 (pc' := 43) (L' := [some (.ref 80), some (.int (iI 1))]) (st' := [.int (iI 1), .int (iI 108), .int (iI 1), .ref 90]) (g1 := (HW (usc (usc (usc (usc (usc (usc (usc sc 8008 0) 8009 (sc 8006)) 8010 0) 8011 (-1)) 8026 0) 8027 0) 8028 0) (usc ar 90 (usz (ar 90) 0 (kc4 0))) 81 oc rl ou tl, q)) rfl ?_
  refine RQ.call rfl rfl (CallR.up (d := 1) (m_usual_l (d := 0) (c := 108) (j := 1) rfl (by omega)) (by omega)) ?_
  refine RQ.iast (z := 1) (v := (kc4 1)) (g1 := (HW (usc (usc (usc (usc (usc (usc (usc sc 8008 0) 8009 (sc 8006)) 8010 0) 8011 (-1)) 8026 0) 8027 0) 8028 0) (usc ar 90 (usz (usz (ar 90) 0 (kc4 0)) 1 (kc4 1))) 81 oc rl ou tl, q)) rfl rfl rfl rfl (by omega) (by decide) (HWa_90 (by funext j; unfold usc; cases hb : Nat.beq j 90 <;> first | rfl | (rw [Nat.eq_of_beq_eq_true hb]; rfl))) ?_
  refine RQ.seg 10 (pc' := 43) (L' := [some (.ref 80), some (.int (iI 2))]) (st' := [.int (iI 2), .int (iI 108), .int (iI 2), .ref 90]) (g1 := (HW (usc (usc (usc (usc (usc (usc (usc sc 8008 0) 8009 (sc 8006)) 8010 0) 8011 (-1)) 8026 0) 8027 0) 8028 0) (usc ar 90 (usz (usz (ar 90) 0 (kc4 0)) 1 (kc4 1))) 81 oc rl ou tl, q)) rfl ?_
  refine RQ.call rfl rfl (CallR.up (d := 1) (m_usual_l (d := 0) (c := 108) (j := 2) rfl (by omega)) (by omega)) ?_
  refine RQ.iast (z := 2) (v := (kc4 2)) (g1 := (HW (usc (usc (usc (usc (usc (usc (usc sc 8008 0) 8009 (sc 8006)) 8010 0) 8011 (-1)) 8026 0) 8027 0) 8028 0) (usc ar 90 (usz (usz (usz (ar 90) 0 (kc4 0)) 1 (kc4 1)) 2 (kc4 2))) 81 oc rl ou tl, q)) rfl rfl rfl rfl (by omega) (by decide) (HWa_90 (by funext j; unfold usc; cases hb : Nat.beq j 90 <;> first | rfl | (rw [Nat.eq_of_beq_eq_true hb]; rfl))) ?_
  refine RQ.seg 10 (pc' := 43) (L' := [some (.ref 80), some (.int (iI 3))]) (st' := [.int (iI 3), .int (iI 108), .int (iI 3), .ref 90]) (g1 := (HW (usc (usc (usc (usc (usc (usc (usc sc 8008 0) 8009 (sc 8006)) 8010 0) 8011 (-1)) 8026 0) 8027 0) 8028 0) (usc ar 90 (usz (usz (usz (ar 90) 0 (kc4 0)) 1 (kc4 1)) 2 (kc4 2))) 81 oc rl ou tl, q)) rfl ?_
  refine RQ.call rfl rfl (CallR.up (d := 1) (m_usual_l (d := 0) (c := 108) (j := 3) rfl (by omega)) (by omega)) ?_
  refine RQ.iast (z := 3) (v := (kc4 3)) (g1 := (HW (usc (usc (usc (usc (usc (usc (usc sc 8008 0) 8009 (sc 8006)) 8010 0) 8011 (-1)) 8026 0) 8027 0) 8028 0) (usc ar 90 (usz (usz (usz (usz (ar 90) 0 (kc4 0)) 1 (kc4 1)) 2 (kc4 2)) 3 (kc4 3))) 81 oc rl ou tl, q)) rfl rfl rfl rfl (by omega) (by decide) (HWa_90 (by funext j; unfold usc; cases hb : Nat.beq j 90 <;> first | rfl | (rw [Nat.eq_of_beq_eq_true hb]; rfl))) ?_
  refine RQ.seg 7 (pc' := 55) (L' := [some (.ref 80), some (.int (iI 1))]) (st' := []) (g1 := (HW (usc (usc (usc (usc (usc (usc (usc sc 8008 0) 8009 (sc 8006)) 8010 0) 8011 (-1)) 8026 0) 8027 0) 8028 0) (usc ar 90 (usz (usz (usz (usz (ar 90) 0 (kc4 0)) 1 (kc4 1)) 2 (kc4 2)) 3 (kc4 3))) 81 oc rl ou tl, q)) rfl ?_
  refine m_ff_l ht 9 0 fr0 (usc (usc (usc (usc (usc (usc (usc sc 8008 0) 8009 (sc 8006)) 8010 0) 8011 (-1)) 8026 0) 8027 0) 8028 0) (usc ar 90 (usz (usz (usz (usz (ar 90) 0 (kc4 0)) 1 (kc4 1)) 2 (kc4 2)) 3 (kc4 3))) (by omega) ⟨⟨by omega, by omega⟩, rfl, hs, fun k z1 z2 => by rw [Int.zero_add]; exact hl k z1 z2⟩ ⟨⟨Int.le_refl _, by show (0 : Int) ≤ _; omega⟩, ⟨Int.le_refl _, by show (0 : Int) ≤ 4; omega⟩, ⟨Int.le_refl _, by show (0 : Int) ≤ 3; omega⟩, ⟨Int.le_refl _, by show (0 : Int) ≤ 1; omega⟩, fun _ => rfl⟩ ⟨rfl, rfl, rfl, rfl, fun w9 j w0 w1 => absurd (show w9 < 0 from w1) (by omega), fun w9 j w0 w1 => absurd (show w9 < 0 from w1) (by omega), fun j j0 j1 => ?_⟩ rfl rfl rfl (fun sc' ar' z1 z2 z3 z4 z5 => ⟨rfl, sc', ar', rfl, Same.tr (by repeat (first | exact Same.rf | refine Same.us rfl ?_)) (frS_scF z1), Same.tr (by repeat (first | exact Same.rf | refine Same.us rfl ?_)) z2, z3, z4, z5⟩)
  show (usz (usz (usz (usz (ar 90) 0 (kc4 0)) 1 (kc4 1)) 2 (kc4 2)) 3 (kc4 3)) j = kc4 j
  rcases (show j = 0 ∨ j = 1 ∨ j = 2 ∨ j = 3 by omega) with rfl | rfl | rfl | rfl <;> (repeat (first | rw [usz_s] | rw [usz_n (by omega)]))
