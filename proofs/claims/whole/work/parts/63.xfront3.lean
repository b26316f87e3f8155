/-! the class finds the first wrong byte of a front, by wip/tools -/
/-! the class finds the first wrong byte of a front -/
theorem TpX.sm {tp : List Int} {sc sc' : Nat → Int} {ar ar' : Nat → Int → Int} (h1 : Same scF sc sc') (h2 : Same scA ar ar') (hs : sc 101 = (tp.length : Int)) (hl : LAt (fun v => v) (ar 2) tp) : sc' 101 = (tp.length : Int) ∧ LAt (fun v => v) (ar' 2) tp := by
  rw [h1 101 rfl, h2 2 rfl]
  exact ⟨hs, hl⟩
theorem skn_sk {tp : List Int} : ∀ (m : Nat) (p : Int), (tp.length : Int) - p ≤ m → ¬ (skn tp m p < (tp.length : Int) ∧ lat tp (skn tp m p) = 32)
  | 0, p, h => by rw [skn]; omega
  | m + 1, p, h => by
    rw [skn]
    split
    · exact skn_sk m (p + 1) (by omega)
    · assumption
theorem sk_sk {tp : List Int} {p : Int} : sk tp (sk tp p) = sk tp p := sk_f (skn_sk _ p (by omega))
theorem rfr_e {tp : List Int} {T : FS} (h : fE T ≠ -1) : rfr tp T = fE T := if_pos h
theorem rfr_n {tp : List Int} {T : FS} (h : fE T = -1) (h2 : fW T = 0 ∨ fB T = 0) : rfr tp T = (tp.length : Int) := by unfold rfr; rw [if_neg (by omega), if_pos h2]
theorem rfr_g {tp : List Int} {T : FS} (h : fE T = -1) (h2 : ¬ (fW T = 0 ∨ fB T = 0)) : rfr tp T = -1 := by unfold rfr; rw [if_neg (by omega), if_neg h2]
theorem FdX.at {S : FS} {sc : Nat → Int} {ar : Nat → Int → Int} (h : FdX S sc ar) {e a w : Int} : FdX (fAt S e a) (usc (usc sc 1401 a) 1402 w) ar := ⟨rfl, h.2⟩
theorem x_fw_l {K : PK} {d : Nat} {tx oc : Nat} {rl : Nat → Option Nat} {ou : Nat → Int64} {tl : List PO} {q : Nat × Nat} {Q : Option Value → PG → Prop} {tp : List Int} (ht : TpOK tp) (hK0 : K 0 = some (4, zA kc0)) (hK1 : K 1 = some (3, zA kc1)) (hK2 : K 2 = some (4, zA kc2)) (hK4 : K 4 = some (4, zA kc4)) (hK5 : K 5 = some (4, zA kc5)) (hK6 : K 6 = some (4, zA kc6)) (hK7 : K 7 = some (4, zA kc7)) (hK8 : K 8 = some (3, zA kc8)) (hK9 : K 9 = some (3, zA kc9)) (hK10 : K 10 = some (3, zA kc10)) (hK11 : K 11 = some (4, zA kc11)) (hK12 : K 12 = some (4, zA kc12)) : ∀ (m n : Nat) (S : FS) (sc : Nat → Int) (ar : Nat → Int → Int) (hm : n + m = 9) (hs : sc 101 = (tp.length : Int)) (hl : LAt (fun v => v) (ar 2) tp) (hS : FsOK tp S) (hX : FdX S sc ar) (h0 : sc 1402 = -1) (he : fE S = -1) (hc : fW S + fB S + fL S = n) (hk : ∀ sc' ar', Same scF sc sc' → Same scA ar ar' → sc' 1402 = rfr tp (frn tp m S) → (rfr tp (frn tp m S) = -1 → FdX (frn tp m S) sc' ar' ∧ FsOK tp (frn tp m S)) → Q (some (.int (iI (rfr tp (frn tp m S))))) (HW sc' ar' tx oc rl ou tl, q)), RQ K (d + 5) 3 false (some .int) cd25 18 [some (.ref 14), some (.int (iI (n : Int)))] [] (HW sc ar tx oc rl ou tl, q) Q
  | 0, n, S, sc, ar, hm, hs, hl, hS, hX, h0, he, hc, hk => by
    have hS2 := hS.2.1
    have hS3 := hS.2.2.1
    have hS4 := hS.2.2.2.1
    exfalso
    omega
  | m + 1, n, S, sc, ar, hm, hs, hl, hS, hX, h0, he, hc, hk => by
    have ht1 := ht.1
    obtain ⟨⟨hT, hTc, hTd⟩, hTe⟩ := clz_ok hS
    have hT1 := hT.1
    have hT2 := hT.2.1
    have hT3 := hT.2.2.1
    have hT4 := hT.2.2.2.1
    refine RQ.seg 2 (pc' := 21) (L' := [some (.ref 14), some (.int (iI (n : Int)))]) (st' := [.int (iI 9), .int (iI (n : Int))]) (g1 := (HW sc ar tx oc rl ou tl, q)) rfl ?_
    refine RQ.if2 (a := (n : Int)) (b := 9) rfl rfl rfl rfl (by omega) (by omega) (fun (q : 9 ≤ (n : Int)) => absurd q (show ¬ 9 ≤ (n : Int) from by omega)) (fun _ => ?_)
    refine RQ.seg 1 (pc' := 25) (L' := [some (.ref 14), some (.int (iI (n : Int)))]) (st' := [.ref 14]) (g1 := (HW sc ar tx oc rl ou tl, q)) rfl ?_
    refine RQ.call rfl rfl (CallR.up (d := 1) (x_fine14t (d := 0) (sc := sc) (ar := ar) (by show -1 ≤ sc 1402 ∧ sc 1402 ≤ 200; omega) (by show sc 1402 = -1; omega)) (by omega)) ?_
    refine RQ.seg 2 (pc' := 32) (L' := [some (.ref 14), some (.int (iI (n : Int)))]) (st' := [.ref 14]) (g1 := (HW sc ar tx oc rl ou tl, q)) rfl ?_
    refine RQ.callQ rfl rfl (x_fclause ht hs hl hK0 hK1 hK2 hK4 hK5 hK6 hK7 hK8 hK9 hK10 hK11 hK12 hS hX h0) (fun rv g1 hc => ?_)
    obtain ⟨rfl, sc1, ar1, rfl, hs1, ha1, e1, hX1, ra1, rw1, r31, r41⟩ := hc
    obtain ⟨hsq, hlq⟩ := TpX.sm hs1 ha1 hs hl
    rcases Decidable.em (fE (cls tp S) = -1) with hfe | hfe
    · skip
      have hX2 := hX1 hfe
      have hA2 : sc1 1401 = fA (cls tp S) := hX2.1
      have hW2 : sc1 1503 = fW (cls tp S) := hX2.2.2.1
      have hB2 : sc1 1504 = fB (cls tp S) := hX2.2.2.2.1
      have hcn := hTd hfe
      have hsk := sk_r (tp := tp) hT1.2
      have hlr := tch_r ht (sk tp (fA (cls tp S)))
      have hlk : 0 ≤ lk tp (fA (cls tp S)) ∧ lk tp (fA (cls tp S)) ≤ 255 := hlr
      refine RQ.seg 1 (pc' := 36) (L' := [some (.ref 14), some (.int (iI (n : Int)))]) (st' := [.ref 14]) (g1 := (HW sc1 ar1 tx oc rl ou tl, q)) rfl ?_
      refine RQ.call rfl rfl (CallR.up (d := 1) (x_look14 (d := 0) (sc := sc1) (ar := ar1) (a := fA (cls tp S)) ht hsq hlq hA2 (by omega)) (by omega)) ?_
      refine RQ.if1 (a := (lk tp (fA (cls tp S)))) rfl rfl rfl (by omega) (fun (h2 : lk tp (fA (cls tp S)) ≠ 0) => ?_) (fun (h2 : ¬ lk tp (fA (cls tp S)) ≠ 0) => ?_)
      · skip
        refine RQ.seg 2 (pc' := 48) (L' := [some (.ref 14), some (.int (iI (n : Int)))]) (st' := [.int (iI 59), .ref 14]) (g1 := (HW (usc sc1 1401 (sk tp (fA (cls tp S)))) ar1 tx oc rl ou tl, q)) rfl ?_
        have hcall := x_expect14 (K := K) (d := d + 3) (tx := tx) (oc := oc) (rl := rl) (ou := ou) (tl := tl) (q := q) (sc := usc sc1 1401 (sk tp (fA (cls tp S)))) (ar := ar1) (a := sk tp (fA (cls tp S))) (w0 := sc1 1402) (c := 59) ht hsq hlq rfl (by omega) rfl (by omega) (by omega)
        rw [show lk tp (sk tp (fA (cls tp S))) = lk tp (fA (cls tp S)) by unfold lk; rw [sk_sk], sk_sk] at hcall
        rcases Decidable.em (lk tp (fA (cls tp S)) = 59) with h59 | h59
        · skip
          rw [if_pos h59, if_pos h59] at hcall
          rw [show sc1 1402 = -1 by omega] at hcall
          refine RQ.call rfl rfl hcall ?_
          refine RQ.hp (g1 := (HW (usc (usc sc1 1401 (sk tp (fA (cls tp S)) + 1)) 1402 (-1)) ar1 tx oc rl ou tl, q)) (HW_e (by rw [usc_uu _ 1401 _ _]; try rfl) rfl) ?_
          refine RQ.seg 2 (pc' := 18) (L' := [some (.ref 14), some (.int ((iI (n : Int)) + (iI 1)))]) (st' := []) (g1 := (HW (usc (usc sc1 1401 (sk tp (fA (cls tp S)) + 1)) 1402 (-1)) ar1 tx oc rl ou tl, q)) rfl ?_
          refine RQ.to (L' := [some (.ref 14), some (.int (iI ((n : Int) + 1)))]) (st' := []) (by simp only [iI_add, iI_sub, iI_mul, iI_neg]) rfl ?_
          have hfr : frn tp (m + 1) S = frn tp m (fAt (cls tp S) (-1) (sk tp (fA (cls tp S)) + 1)) := by rw [frn, if_neg (by omega), if_neg (by omega), if_pos h59]
          rw [hfr] at hk
          have hkp := tch_pos (tp := tp) (p := sk tp (fA (cls tp S))) (by show lk tp (fA (cls tp S)) ≠ 0; omega)
          exact x_fw_l ht hK0 hK1 hK2 hK4 hK5 hK6 hK7 hK8 hK9 hK10 hK11 hK12 m (n + 1) (fAt (cls tp S) (-1) (sk tp (fA (cls tp S)) + 1)) (usc (usc sc1 1401 (sk tp (fA (cls tp S)) + 1)) 1402 (-1)) ar1 (by omega) hsq hlq (hT.at (by omega)) hX2.at rfl rfl (by show fW (cls tp S) + fB (cls tp S) + fL (cls tp S) = _; omega) (fun sc' ar' z1 z2 z3 z4 => hk sc' ar' (Same.tr hs1 (Same.tr (Same.us rfl (Same.us rfl Same.rf)) z1)) (ha1.tr z2) z3 z4)
        · skip
          rw [if_neg h59, if_neg h59, if_pos (by omega)] at hcall
          refine RQ.call rfl rfl hcall ?_
          refine RQ.hp (g1 := (HW (usc (usc sc1 1401 (sk tp (fA (cls tp S)))) 1402 (sk tp (fA (cls tp S)))) ar1 tx oc rl ou tl, q)) (HW_e (by rw [usc_uu _ 1401 _ _]; try rfl) rfl) ?_
          refine RQ.seg 2 (pc' := 18) (L' := [some (.ref 14), some (.int ((iI (n : Int)) + (iI 1)))]) (st' := []) (g1 := (HW (usc (usc sc1 1401 (sk tp (fA (cls tp S)))) 1402 (sk tp (fA (cls tp S)))) ar1 tx oc rl ou tl, q)) rfl ?_
          refine RQ.to (L' := [some (.ref 14), some (.int (iI ((n : Int) + 1)))]) (st' := []) (by simp only [iI_add, iI_sub, iI_mul, iI_neg]) rfl ?_
          refine RQ.seg 2 (pc' := 21) (L' := [some (.ref 14), some (.int (iI ((n : Int) + 1)))]) (st' := [.int (iI 9), .int (iI ((n : Int) + 1))]) (g1 := (HW (usc (usc sc1 1401 (sk tp (fA (cls tp S)))) 1402 (sk tp (fA (cls tp S)))) ar1 tx oc rl ou tl, q)) rfl ?_
          refine RQ.if2 (a := ((n : Int) + 1)) (b := 9) rfl rfl rfl rfl (by omega) (by omega) (fun (q : 9 ≤ (n : Int) + 1) => absurd q (show ¬ 9 ≤ (n : Int) + 1 from by omega)) (fun _ => ?_)
          refine RQ.seg 1 (pc' := 25) (L' := [some (.ref 14), some (.int (iI ((n : Int) + 1)))]) (st' := [.ref 14]) (g1 := (HW (usc (usc sc1 1401 (sk tp (fA (cls tp S)))) 1402 (sk tp (fA (cls tp S)))) ar1 tx oc rl ou tl, q)) rfl ?_
          refine RQ.call rfl rfl (CallR.up (d := 1) (x_fine14f (d := 0) (sc := usc (usc sc1 1401 (sk tp (fA (cls tp S)))) 1402 (sk tp (fA (cls tp S)))) (ar := ar1) (by show -1 ≤ sk tp (fA (cls tp S)) ∧ sk tp (fA (cls tp S)) ≤ 200; omega) (by show ¬ sk tp (fA (cls tp S)) = -1; omega)) (by omega)) ?_
          refine RQ.seg 4 (pc' := 64) (L' := [some (.ref 14), some (.int (iI ((n : Int) + 1)))]) (st' := [.int (iI (sc1 1503))]) (g1 := (HW (usc (usc sc1 1401 (sk tp (fA (cls tp S)))) 1402 (sk tp (fA (cls tp S)))) ar1 tx oc rl ou tl, q)) rfl ?_
          refine RQ.if1 (a := (sc1 1503)) rfl rfl rfl (by omega) (fun (h4 : sc1 1503 = 0) => ?_) (fun (h4 : ¬ sc1 1503 = 0) => ?_)
          · skip
            refine RQ.seg 4 (pc' := 85) (L' := [some (.ref 14), some (.int (iI ((n : Int) + 1)))]) (st' := [.int (iI (sc1 101)), .ref 14]) (g1 := (HW (usc (usc sc1 1401 (sk tp (fA (cls tp S)))) 1402 (sk tp (fA (cls tp S)))) ar1 tx oc rl ou tl, q)) rfl ?_
            refine RQ.to (L' := [some (.ref 14), some (.int (iI ((n : Int) + 1)))]) (st' := [.int (iI (tp.length : Int)), .ref 14]) rfl (by rw [show sc1 101 = (tp.length : Int) from hsq]) ?_
            have hcall := CallR.up (d' := d + 5) (x_refuse14 (K := K) (d := 0) (tx := tx) (oc := oc) (rl := rl) (ou := ou) (tl := tl) (q := q) (sc := usc (usc sc1 1401 (sk tp (fA (cls tp S)))) 1402 (sk tp (fA (cls tp S)))) (ar := ar1) (p := (tp.length : Int)) (by show -1 ≤ sk tp (fA (cls tp S)) ∧ sk tp (fA (cls tp S)) ≤ 200; omega)) (by omega)
            rw [show (if (usc (usc sc1 1401 (sk tp (fA (cls tp S)))) 1402 (sk tp (fA (cls tp S)))) 1402 = -1 then (tp.length : Int) else (usc (usc sc1 1401 (sk tp (fA (cls tp S)))) 1402 (sk tp (fA (cls tp S)))) 1402) = sk tp (fA (cls tp S)) from if_neg (by show ¬ sk tp (fA (cls tp S)) = -1; omega)] at hcall
            refine RQ.call rfl rfl hcall ?_
            refine RQ.hp (g1 := (HW (usc (usc sc1 1401 (sk tp (fA (cls tp S)))) 1402 (sk tp (fA (cls tp S)))) ar1 tx oc rl ou tl, q)) (HW_e (by rw [usc_uu _ 1402 _ _]; try rfl) rfl) ?_
            refine RQ.seg 2 (pc' := 92) (L' := [some (.ref 14), some (.int (iI ((n : Int) + 1)))]) (st' := [.int (iI (sk tp (fA (cls tp S))))]) (g1 := (HW (usc (usc sc1 1401 (sk tp (fA (cls tp S)))) 1402 (sk tp (fA (cls tp S)))) ar1 tx oc rl ou tl, q)) rfl ?_
            refine RQ.ret rfl rfl ?_
            have hfr : frn tp (m + 1) S = fAt (cls tp S) (sk tp (fA (cls tp S))) (sk tp (fA (cls tp S))) := by rw [frn, if_neg (by omega), if_neg (by omega), if_neg h59]
            have e9 : rfr tp (frn tp (m + 1) S) = sk tp (fA (cls tp S)) := by rw [hfr]; exact rfr_e (by show sk tp (fA (cls tp S)) ≠ -1; omega)
            rw [e9] at hk
            exact hk _ _ (Same.tr hs1 (by repeat (first | exact Same.rf | refine Same.us rfl ?_))) ha1 rfl (fun z => absurd z (by omega))
          · skip
            refine RQ.seg 3 (pc' := 74) (L' := [some (.ref 14), some (.int (iI ((n : Int) + 1)))]) (st' := [.int (iI (sc1 1504))]) (g1 := (HW (usc (usc sc1 1401 (sk tp (fA (cls tp S)))) 1402 (sk tp (fA (cls tp S)))) ar1 tx oc rl ou tl, q)) rfl ?_
            refine RQ.if1 (a := (sc1 1504)) rfl rfl rfl (by omega) (fun (h5 : sc1 1504 ≠ 0) => ?_) (fun (h5 : ¬ sc1 1504 ≠ 0) => ?_)
            · skip
              refine RQ.seg 2 (pc' := 92) (L' := [some (.ref 14), some (.int (iI ((n : Int) + 1)))]) (st' := [.int (iI (sk tp (fA (cls tp S))))]) (g1 := (HW (usc (usc sc1 1401 (sk tp (fA (cls tp S)))) 1402 (sk tp (fA (cls tp S)))) ar1 tx oc rl ou tl, q)) rfl ?_
              refine RQ.ret rfl rfl ?_
              have hfr : frn tp (m + 1) S = fAt (cls tp S) (sk tp (fA (cls tp S))) (sk tp (fA (cls tp S))) := by rw [frn, if_neg (by omega), if_neg (by omega), if_neg h59]
              have e9 : rfr tp (frn tp (m + 1) S) = sk tp (fA (cls tp S)) := by rw [hfr]; exact rfr_e (by show sk tp (fA (cls tp S)) ≠ -1; omega)
              rw [e9] at hk
              exact hk _ _ (Same.tr hs1 (by repeat (first | exact Same.rf | refine Same.us rfl ?_))) ha1 rfl (fun z => absurd z (by omega))
            · skip
              refine RQ.seg 4 (pc' := 85) (L' := [some (.ref 14), some (.int (iI ((n : Int) + 1)))]) (st' := [.int (iI (sc1 101)), .ref 14]) (g1 := (HW (usc (usc sc1 1401 (sk tp (fA (cls tp S)))) 1402 (sk tp (fA (cls tp S)))) ar1 tx oc rl ou tl, q)) rfl ?_
              refine RQ.to (L' := [some (.ref 14), some (.int (iI ((n : Int) + 1)))]) (st' := [.int (iI (tp.length : Int)), .ref 14]) rfl (by rw [show sc1 101 = (tp.length : Int) from hsq]) ?_
              have hcall := CallR.up (d' := d + 5) (x_refuse14 (K := K) (d := 0) (tx := tx) (oc := oc) (rl := rl) (ou := ou) (tl := tl) (q := q) (sc := usc (usc sc1 1401 (sk tp (fA (cls tp S)))) 1402 (sk tp (fA (cls tp S)))) (ar := ar1) (p := (tp.length : Int)) (by show -1 ≤ sk tp (fA (cls tp S)) ∧ sk tp (fA (cls tp S)) ≤ 200; omega)) (by omega)
              rw [show (if (usc (usc sc1 1401 (sk tp (fA (cls tp S)))) 1402 (sk tp (fA (cls tp S)))) 1402 = -1 then (tp.length : Int) else (usc (usc sc1 1401 (sk tp (fA (cls tp S)))) 1402 (sk tp (fA (cls tp S)))) 1402) = sk tp (fA (cls tp S)) from if_neg (by show ¬ sk tp (fA (cls tp S)) = -1; omega)] at hcall
              refine RQ.call rfl rfl hcall ?_
              refine RQ.hp (g1 := (HW (usc (usc sc1 1401 (sk tp (fA (cls tp S)))) 1402 (sk tp (fA (cls tp S)))) ar1 tx oc rl ou tl, q)) (HW_e (by rw [usc_uu _ 1402 _ _]; try rfl) rfl) ?_
              refine RQ.seg 2 (pc' := 92) (L' := [some (.ref 14), some (.int (iI ((n : Int) + 1)))]) (st' := [.int (iI (sk tp (fA (cls tp S))))]) (g1 := (HW (usc (usc sc1 1401 (sk tp (fA (cls tp S)))) 1402 (sk tp (fA (cls tp S)))) ar1 tx oc rl ou tl, q)) rfl ?_
              refine RQ.ret rfl rfl ?_
              have hfr : frn tp (m + 1) S = fAt (cls tp S) (sk tp (fA (cls tp S))) (sk tp (fA (cls tp S))) := by rw [frn, if_neg (by omega), if_neg (by omega), if_neg h59]
              have e9 : rfr tp (frn tp (m + 1) S) = sk tp (fA (cls tp S)) := by rw [hfr]; exact rfr_e (by show sk tp (fA (cls tp S)) ≠ -1; omega)
              rw [e9] at hk
              exact hk _ _ (Same.tr hs1 (by repeat (first | exact Same.rf | refine Same.us rfl ?_))) ha1 rfl (fun z => absurd z (by omega))
      · skip
        refine RQ.seg 4 (pc' := 64) (L' := [some (.ref 14), some (.int (iI (n : Int)))]) (st' := [.int (iI (sc1 1503))]) (g1 := (HW (usc sc1 1401 (sk tp (fA (cls tp S)))) ar1 tx oc rl ou tl, q)) rfl ?_
        refine RQ.if1 (a := (sc1 1503)) rfl rfl rfl (by omega) (fun (h6 : sc1 1503 = 0) => ?_) (fun (h6 : ¬ sc1 1503 = 0) => ?_)
        · skip
          refine RQ.seg 4 (pc' := 85) (L' := [some (.ref 14), some (.int (iI (n : Int)))]) (st' := [.int (iI (sc1 101)), .ref 14]) (g1 := (HW (usc sc1 1401 (sk tp (fA (cls tp S)))) ar1 tx oc rl ou tl, q)) rfl ?_
          refine RQ.to (L' := [some (.ref 14), some (.int (iI (n : Int)))]) (st' := [.int (iI (tp.length : Int)), .ref 14]) rfl (by rw [show sc1 101 = (tp.length : Int) from hsq]) ?_
          have hcall := CallR.up (d' := d + 5) (x_refuse14 (K := K) (d := 0) (tx := tx) (oc := oc) (rl := rl) (ou := ou) (tl := tl) (q := q) (sc := usc sc1 1401 (sk tp (fA (cls tp S)))) (ar := ar1) (p := (tp.length : Int)) (by show -1 ≤ sc1 1402 ∧ sc1 1402 ≤ 200; omega)) (by omega)
          rw [show (if (usc sc1 1401 (sk tp (fA (cls tp S)))) 1402 = -1 then (tp.length : Int) else (usc sc1 1401 (sk tp (fA (cls tp S)))) 1402) = (tp.length : Int) from if_pos (by show sc1 1402 = -1; omega)] at hcall
          refine RQ.call rfl rfl hcall ?_
          refine RQ.seg 2 (pc' := 92) (L' := [some (.ref 14), some (.int (iI (n : Int)))]) (st' := [.int (iI (tp.length : Int))]) (g1 := (HW (usc (usc sc1 1401 (sk tp (fA (cls tp S)))) 1402 (tp.length : Int)) ar1 tx oc rl ou tl, q)) rfl ?_
          refine RQ.ret rfl rfl ?_
          have hfr : frn tp (m + 1) S = fAt (cls tp S) (-1) (sk tp (fA (cls tp S))) := by rw [frn, if_neg (by omega), if_pos (by omega)]
          have e9 : rfr tp (frn tp (m + 1) S) = (tp.length : Int) := by rw [hfr]; exact rfr_n rfl (by show fW (cls tp S) = 0 ∨ fB (cls tp S) = 0; omega)
          rw [e9] at hk
          exact hk _ _ (Same.tr hs1 (by repeat (first | exact Same.rf | refine Same.us rfl ?_))) ha1 rfl (fun z => absurd z (by omega))
        · skip
          refine RQ.seg 3 (pc' := 74) (L' := [some (.ref 14), some (.int (iI (n : Int)))]) (st' := [.int (iI (sc1 1504))]) (g1 := (HW (usc sc1 1401 (sk tp (fA (cls tp S)))) ar1 tx oc rl ou tl, q)) rfl ?_
          refine RQ.if1 (a := (sc1 1504)) rfl rfl rfl (by omega) (fun (h7 : sc1 1504 ≠ 0) => ?_) (fun (h7 : ¬ sc1 1504 ≠ 0) => ?_)
          · skip
            refine RQ.seg 2 (pc' := 92) (L' := [some (.ref 14), some (.int (iI (n : Int)))]) (st' := [.int (iI (sc1 1402))]) (g1 := (HW (usc sc1 1401 (sk tp (fA (cls tp S)))) ar1 tx oc rl ou tl, q)) rfl ?_
            refine RQ.ret rfl rfl ?_
            have hfr : frn tp (m + 1) S = fAt (cls tp S) (-1) (sk tp (fA (cls tp S))) := by rw [frn, if_neg (by omega), if_pos (by omega)]
            have e9 : rfr tp (frn tp (m + 1) S) = -1 := by rw [hfr]; exact rfr_g rfl (by show ¬ (fW (cls tp S) = 0 ∨ fB (cls tp S) = 0); omega)
            rw [e9, hfr] at hk
            rw [show sc1 1402 = -1 by omega]
            exact hk _ _ (Same.tr hs1 (by repeat (first | exact Same.rf | refine Same.us rfl ?_))) ha1 (by show sc1 1402 = -1; omega) (fun _ => ⟨⟨rfl, hX2.2⟩, hT.at (by omega)⟩)
          · skip
            refine RQ.seg 4 (pc' := 85) (L' := [some (.ref 14), some (.int (iI (n : Int)))]) (st' := [.int (iI (sc1 101)), .ref 14]) (g1 := (HW (usc sc1 1401 (sk tp (fA (cls tp S)))) ar1 tx oc rl ou tl, q)) rfl ?_
            refine RQ.to (L' := [some (.ref 14), some (.int (iI (n : Int)))]) (st' := [.int (iI (tp.length : Int)), .ref 14]) rfl (by rw [show sc1 101 = (tp.length : Int) from hsq]) ?_
            have hcall := CallR.up (d' := d + 5) (x_refuse14 (K := K) (d := 0) (tx := tx) (oc := oc) (rl := rl) (ou := ou) (tl := tl) (q := q) (sc := usc sc1 1401 (sk tp (fA (cls tp S)))) (ar := ar1) (p := (tp.length : Int)) (by show -1 ≤ sc1 1402 ∧ sc1 1402 ≤ 200; omega)) (by omega)
            rw [show (if (usc sc1 1401 (sk tp (fA (cls tp S)))) 1402 = -1 then (tp.length : Int) else (usc sc1 1401 (sk tp (fA (cls tp S)))) 1402) = (tp.length : Int) from if_pos (by show sc1 1402 = -1; omega)] at hcall
            refine RQ.call rfl rfl hcall ?_
            refine RQ.seg 2 (pc' := 92) (L' := [some (.ref 14), some (.int (iI (n : Int)))]) (st' := [.int (iI (tp.length : Int))]) (g1 := (HW (usc (usc sc1 1401 (sk tp (fA (cls tp S)))) 1402 (tp.length : Int)) ar1 tx oc rl ou tl, q)) rfl ?_
            refine RQ.ret rfl rfl ?_
            have hfr : frn tp (m + 1) S = fAt (cls tp S) (-1) (sk tp (fA (cls tp S))) := by rw [frn, if_neg (by omega), if_pos (by omega)]
            have e9 : rfr tp (frn tp (m + 1) S) = (tp.length : Int) := by rw [hfr]; exact rfr_n rfl (by show fW (cls tp S) = 0 ∨ fB (cls tp S) = 0; omega)
            rw [e9] at hk
            exact hk _ _ (Same.tr hs1 (by repeat (first | exact Same.rf | refine Same.us rfl ?_))) ha1 rfl (fun z => absurd z (by omega))
    · skip
      have hwn : ¬ sc1 1402 = -1 := by omega
      have hsk := sk_r (tp := tp) (p := sc1 1401) ra1.2
      have hlr := tch_r ht (sk tp (sc1 1401))
      have hlk : 0 ≤ lk tp (sc1 1401) ∧ lk tp (sc1 1401) ≤ 255 := hlr
      have hfr : frn tp (m + 1) S = cls tp S := by rw [frn, if_pos hfe]
      refine RQ.seg 1 (pc' := 36) (L' := [some (.ref 14), some (.int (iI (n : Int)))]) (st' := [.ref 14]) (g1 := (HW sc1 ar1 tx oc rl ou tl, q)) rfl ?_
      refine RQ.call rfl rfl (CallR.up (d := 1) (x_look14 (d := 0) (sc := sc1) (ar := ar1) (a := sc1 1401) ht hsq hlq rfl (by omega)) (by omega)) ?_
      refine RQ.if1 (a := (lk tp (sc1 1401))) rfl rfl rfl (by omega) (fun (h8 : lk tp (sc1 1401) ≠ 0) => ?_) (fun (h8 : ¬ lk tp (sc1 1401) ≠ 0) => ?_)
      · skip
        refine RQ.seg 2 (pc' := 48) (L' := [some (.ref 14), some (.int (iI (n : Int)))]) (st' := [.int (iI 59), .ref 14]) (g1 := (HW (usc sc1 1401 (sk tp (sc1 1401))) ar1 tx oc rl ou tl, q)) rfl ?_
        have hcall := x_expect14 (K := K) (d := d + 3) (tx := tx) (oc := oc) (rl := rl) (ou := ou) (tl := tl) (q := q) (sc := usc sc1 1401 (sk tp (sc1 1401))) (ar := ar1) (a := sk tp (sc1 1401)) (w0 := sc1 1402) (c := 59) ht hsq hlq rfl (by omega) rfl (by omega) (by omega)
        rw [show lk tp (sk tp (sc1 1401)) = lk tp (sc1 1401) by unfold lk; rw [sk_sk], sk_sk] at hcall
        rw [show (if lk tp (sc1 1401) = 59 then sc1 1402 else if sc1 1402 = -1 then sk tp (sc1 1401) else sc1 1402) = sc1 1402 by rw [if_neg hwn]; exact ite_self _] at hcall
        refine RQ.call rfl rfl hcall ?_
        refine RQ.hp (g1 := (HW (usc (usc sc1 1401 (if lk tp (sc1 1401) = 59 then sk tp (sc1 1401) + 1 else sk tp (sc1 1401))) 1402 (sc1 1402)) ar1 tx oc rl ou tl, q)) (HW_e (by rw [usc_uu _ 1401 _ _]; try rfl) rfl) ?_
        refine RQ.seg 2 (pc' := 18) (L' := [some (.ref 14), some (.int ((iI (n : Int)) + (iI 1)))]) (st' := []) (g1 := (HW (usc (usc sc1 1401 (if lk tp (sc1 1401) = 59 then sk tp (sc1 1401) + 1 else sk tp (sc1 1401))) 1402 (sc1 1402)) ar1 tx oc rl ou tl, q)) rfl ?_
        refine RQ.to (L' := [some (.ref 14), some (.int (iI ((n : Int) + 1)))]) (st' := []) (by simp only [iI_add, iI_sub, iI_mul, iI_neg]) rfl ?_
        refine RQ.seg 2 (pc' := 21) (L' := [some (.ref 14), some (.int (iI ((n : Int) + 1)))]) (st' := [.int (iI 9), .int (iI ((n : Int) + 1))]) (g1 := (HW (usc (usc sc1 1401 (if lk tp (sc1 1401) = 59 then sk tp (sc1 1401) + 1 else sk tp (sc1 1401))) 1402 (sc1 1402)) ar1 tx oc rl ou tl, q)) rfl ?_
        refine RQ.if2 (a := ((n : Int) + 1)) (b := 9) rfl rfl rfl rfl (by omega) (by omega) (fun (h9 : 9 ≤ (n : Int) + 1) => ?_) (fun (h9 : ¬ 9 ≤ (n : Int) + 1) => ?_)
        · skip
          refine RQ.seg 3 (pc' := 64) (L' := [some (.ref 14), some (.int (iI ((n : Int) + 1)))]) (st' := [.int (iI (sc1 1503))]) (g1 := (HW (usc (usc sc1 1401 (if lk tp (sc1 1401) = 59 then sk tp (sc1 1401) + 1 else sk tp (sc1 1401))) 1402 (sc1 1402)) ar1 tx oc rl ou tl, q)) rfl ?_
          refine RQ.if1 (a := (sc1 1503)) rfl rfl rfl (by omega) (fun (h10 : sc1 1503 = 0) => ?_) (fun (h10 : ¬ sc1 1503 = 0) => ?_)
          · skip
            refine RQ.seg 4 (pc' := 85) (L' := [some (.ref 14), some (.int (iI ((n : Int) + 1)))]) (st' := [.int (iI (sc1 101)), .ref 14]) (g1 := (HW (usc (usc sc1 1401 (if lk tp (sc1 1401) = 59 then sk tp (sc1 1401) + 1 else sk tp (sc1 1401))) 1402 (sc1 1402)) ar1 tx oc rl ou tl, q)) rfl ?_
            refine RQ.to (L' := [some (.ref 14), some (.int (iI ((n : Int) + 1)))]) (st' := [.int (iI (tp.length : Int)), .ref 14]) rfl (by rw [show sc1 101 = (tp.length : Int) from hsq]) ?_
            have hcall := CallR.up (d' := d + 5) (x_refuse14 (K := K) (d := 0) (tx := tx) (oc := oc) (rl := rl) (ou := ou) (tl := tl) (q := q) (sc := usc (usc sc1 1401 (if lk tp (sc1 1401) = 59 then sk tp (sc1 1401) + 1 else sk tp (sc1 1401))) 1402 (sc1 1402)) (ar := ar1) (p := (tp.length : Int)) (by show -1 ≤ sc1 1402 ∧ sc1 1402 ≤ 200; omega)) (by omega)
            rw [show (if (usc (usc sc1 1401 (if lk tp (sc1 1401) = 59 then sk tp (sc1 1401) + 1 else sk tp (sc1 1401))) 1402 (sc1 1402)) 1402 = -1 then (tp.length : Int) else (usc (usc sc1 1401 (if lk tp (sc1 1401) = 59 then sk tp (sc1 1401) + 1 else sk tp (sc1 1401))) 1402 (sc1 1402)) 1402) = sc1 1402 from if_neg (by show ¬ sc1 1402 = -1; omega)] at hcall
            refine RQ.call rfl rfl hcall ?_
            refine RQ.hp (g1 := (HW (usc (usc sc1 1401 (if lk tp (sc1 1401) = 59 then sk tp (sc1 1401) + 1 else sk tp (sc1 1401))) 1402 (sc1 1402)) ar1 tx oc rl ou tl, q)) (HW_e (by rw [usc_uu _ 1402 _ _]; try rfl) rfl) ?_
            refine RQ.seg 2 (pc' := 92) (L' := [some (.ref 14), some (.int (iI ((n : Int) + 1)))]) (st' := [.int (iI (sc1 1402))]) (g1 := (HW (usc (usc sc1 1401 (if lk tp (sc1 1401) = 59 then sk tp (sc1 1401) + 1 else sk tp (sc1 1401))) 1402 (sc1 1402)) ar1 tx oc rl ou tl, q)) rfl ?_
            refine RQ.ret rfl rfl ?_
            rw [hfr] at hk
            have e9 : rfr tp (cls tp S) = sc1 1402 := by rw [rfr_e hfe]; exact e1.symm
            rw [e9] at hk
            exact hk _ _ (Same.tr hs1 (by repeat (first | exact Same.rf | refine Same.us rfl ?_))) ha1 rfl (fun z => absurd z hwn)
          · skip
            refine RQ.seg 3 (pc' := 74) (L' := [some (.ref 14), some (.int (iI ((n : Int) + 1)))]) (st' := [.int (iI (sc1 1504))]) (g1 := (HW (usc (usc sc1 1401 (if lk tp (sc1 1401) = 59 then sk tp (sc1 1401) + 1 else sk tp (sc1 1401))) 1402 (sc1 1402)) ar1 tx oc rl ou tl, q)) rfl ?_
            refine RQ.if1 (a := (sc1 1504)) rfl rfl rfl (by omega) (fun (h11 : sc1 1504 ≠ 0) => ?_) (fun (h11 : ¬ sc1 1504 ≠ 0) => ?_)
            · skip
              refine RQ.seg 2 (pc' := 92) (L' := [some (.ref 14), some (.int (iI ((n : Int) + 1)))]) (st' := [.int (iI (sc1 1402))]) (g1 := (HW (usc (usc sc1 1401 (if lk tp (sc1 1401) = 59 then sk tp (sc1 1401) + 1 else sk tp (sc1 1401))) 1402 (sc1 1402)) ar1 tx oc rl ou tl, q)) rfl ?_
              refine RQ.ret rfl rfl ?_
              rw [hfr] at hk
              have e9 : rfr tp (cls tp S) = sc1 1402 := by rw [rfr_e hfe]; exact e1.symm
              rw [e9] at hk
              exact hk _ _ (Same.tr hs1 (by repeat (first | exact Same.rf | refine Same.us rfl ?_))) ha1 rfl (fun z => absurd z hwn)
            · skip
              refine RQ.seg 4 (pc' := 85) (L' := [some (.ref 14), some (.int (iI ((n : Int) + 1)))]) (st' := [.int (iI (sc1 101)), .ref 14]) (g1 := (HW (usc (usc sc1 1401 (if lk tp (sc1 1401) = 59 then sk tp (sc1 1401) + 1 else sk tp (sc1 1401))) 1402 (sc1 1402)) ar1 tx oc rl ou tl, q)) rfl ?_
              refine RQ.to (L' := [some (.ref 14), some (.int (iI ((n : Int) + 1)))]) (st' := [.int (iI (tp.length : Int)), .ref 14]) rfl (by rw [show sc1 101 = (tp.length : Int) from hsq]) ?_
              have hcall := CallR.up (d' := d + 5) (x_refuse14 (K := K) (d := 0) (tx := tx) (oc := oc) (rl := rl) (ou := ou) (tl := tl) (q := q) (sc := usc (usc sc1 1401 (if lk tp (sc1 1401) = 59 then sk tp (sc1 1401) + 1 else sk tp (sc1 1401))) 1402 (sc1 1402)) (ar := ar1) (p := (tp.length : Int)) (by show -1 ≤ sc1 1402 ∧ sc1 1402 ≤ 200; omega)) (by omega)
              rw [show (if (usc (usc sc1 1401 (if lk tp (sc1 1401) = 59 then sk tp (sc1 1401) + 1 else sk tp (sc1 1401))) 1402 (sc1 1402)) 1402 = -1 then (tp.length : Int) else (usc (usc sc1 1401 (if lk tp (sc1 1401) = 59 then sk tp (sc1 1401) + 1 else sk tp (sc1 1401))) 1402 (sc1 1402)) 1402) = sc1 1402 from if_neg (by show ¬ sc1 1402 = -1; omega)] at hcall
              refine RQ.call rfl rfl hcall ?_
              refine RQ.hp (g1 := (HW (usc (usc sc1 1401 (if lk tp (sc1 1401) = 59 then sk tp (sc1 1401) + 1 else sk tp (sc1 1401))) 1402 (sc1 1402)) ar1 tx oc rl ou tl, q)) (HW_e (by rw [usc_uu _ 1402 _ _]; try rfl) rfl) ?_
              refine RQ.seg 2 (pc' := 92) (L' := [some (.ref 14), some (.int (iI ((n : Int) + 1)))]) (st' := [.int (iI (sc1 1402))]) (g1 := (HW (usc (usc sc1 1401 (if lk tp (sc1 1401) = 59 then sk tp (sc1 1401) + 1 else sk tp (sc1 1401))) 1402 (sc1 1402)) ar1 tx oc rl ou tl, q)) rfl ?_
              refine RQ.ret rfl rfl ?_
              rw [hfr] at hk
              have e9 : rfr tp (cls tp S) = sc1 1402 := by rw [rfr_e hfe]; exact e1.symm
              rw [e9] at hk
              exact hk _ _ (Same.tr hs1 (by repeat (first | exact Same.rf | refine Same.us rfl ?_))) ha1 rfl (fun z => absurd z hwn)
        · skip
          refine RQ.seg 1 (pc' := 25) (L' := [some (.ref 14), some (.int (iI ((n : Int) + 1)))]) (st' := [.ref 14]) (g1 := (HW (usc (usc sc1 1401 (if lk tp (sc1 1401) = 59 then sk tp (sc1 1401) + 1 else sk tp (sc1 1401))) 1402 (sc1 1402)) ar1 tx oc rl ou tl, q)) rfl ?_
          refine RQ.call rfl rfl (CallR.up (d := 1) (x_fine14f (d := 0) (sc := usc (usc sc1 1401 (if lk tp (sc1 1401) = 59 then sk tp (sc1 1401) + 1 else sk tp (sc1 1401))) 1402 (sc1 1402)) (ar := ar1) (by show -1 ≤ sc1 1402 ∧ sc1 1402 ≤ 200; omega) (by show ¬ sc1 1402 = -1; omega)) (by omega)) ?_
          refine RQ.seg 4 (pc' := 64) (L' := [some (.ref 14), some (.int (iI ((n : Int) + 1)))]) (st' := [.int (iI (sc1 1503))]) (g1 := (HW (usc (usc sc1 1401 (if lk tp (sc1 1401) = 59 then sk tp (sc1 1401) + 1 else sk tp (sc1 1401))) 1402 (sc1 1402)) ar1 tx oc rl ou tl, q)) rfl ?_
          refine RQ.if1 (a := (sc1 1503)) rfl rfl rfl (by omega) (fun (h12 : sc1 1503 = 0) => ?_) (fun (h12 : ¬ sc1 1503 = 0) => ?_)
          · skip
            refine RQ.seg 4 (pc' := 85) (L' := [some (.ref 14), some (.int (iI ((n : Int) + 1)))]) (st' := [.int (iI (sc1 101)), .ref 14]) (g1 := (HW (usc (usc sc1 1401 (if lk tp (sc1 1401) = 59 then sk tp (sc1 1401) + 1 else sk tp (sc1 1401))) 1402 (sc1 1402)) ar1 tx oc rl ou tl, q)) rfl ?_
            refine RQ.to (L' := [some (.ref 14), some (.int (iI ((n : Int) + 1)))]) (st' := [.int (iI (tp.length : Int)), .ref 14]) rfl (by rw [show sc1 101 = (tp.length : Int) from hsq]) ?_
            have hcall := CallR.up (d' := d + 5) (x_refuse14 (K := K) (d := 0) (tx := tx) (oc := oc) (rl := rl) (ou := ou) (tl := tl) (q := q) (sc := usc (usc sc1 1401 (if lk tp (sc1 1401) = 59 then sk tp (sc1 1401) + 1 else sk tp (sc1 1401))) 1402 (sc1 1402)) (ar := ar1) (p := (tp.length : Int)) (by show -1 ≤ sc1 1402 ∧ sc1 1402 ≤ 200; omega)) (by omega)
            rw [show (if (usc (usc sc1 1401 (if lk tp (sc1 1401) = 59 then sk tp (sc1 1401) + 1 else sk tp (sc1 1401))) 1402 (sc1 1402)) 1402 = -1 then (tp.length : Int) else (usc (usc sc1 1401 (if lk tp (sc1 1401) = 59 then sk tp (sc1 1401) + 1 else sk tp (sc1 1401))) 1402 (sc1 1402)) 1402) = sc1 1402 from if_neg (by show ¬ sc1 1402 = -1; omega)] at hcall
            refine RQ.call rfl rfl hcall ?_
            refine RQ.hp (g1 := (HW (usc (usc sc1 1401 (if lk tp (sc1 1401) = 59 then sk tp (sc1 1401) + 1 else sk tp (sc1 1401))) 1402 (sc1 1402)) ar1 tx oc rl ou tl, q)) (HW_e (by rw [usc_uu _ 1402 _ _]; try rfl) rfl) ?_
            refine RQ.seg 2 (pc' := 92) (L' := [some (.ref 14), some (.int (iI ((n : Int) + 1)))]) (st' := [.int (iI (sc1 1402))]) (g1 := (HW (usc (usc sc1 1401 (if lk tp (sc1 1401) = 59 then sk tp (sc1 1401) + 1 else sk tp (sc1 1401))) 1402 (sc1 1402)) ar1 tx oc rl ou tl, q)) rfl ?_
            refine RQ.ret rfl rfl ?_
            rw [hfr] at hk
            have e9 : rfr tp (cls tp S) = sc1 1402 := by rw [rfr_e hfe]; exact e1.symm
            rw [e9] at hk
            exact hk _ _ (Same.tr hs1 (by repeat (first | exact Same.rf | refine Same.us rfl ?_))) ha1 rfl (fun z => absurd z hwn)
          · skip
            refine RQ.seg 3 (pc' := 74) (L' := [some (.ref 14), some (.int (iI ((n : Int) + 1)))]) (st' := [.int (iI (sc1 1504))]) (g1 := (HW (usc (usc sc1 1401 (if lk tp (sc1 1401) = 59 then sk tp (sc1 1401) + 1 else sk tp (sc1 1401))) 1402 (sc1 1402)) ar1 tx oc rl ou tl, q)) rfl ?_
            refine RQ.if1 (a := (sc1 1504)) rfl rfl rfl (by omega) (fun (h13 : sc1 1504 ≠ 0) => ?_) (fun (h13 : ¬ sc1 1504 ≠ 0) => ?_)
            · skip
              refine RQ.seg 2 (pc' := 92) (L' := [some (.ref 14), some (.int (iI ((n : Int) + 1)))]) (st' := [.int (iI (sc1 1402))]) (g1 := (HW (usc (usc sc1 1401 (if lk tp (sc1 1401) = 59 then sk tp (sc1 1401) + 1 else sk tp (sc1 1401))) 1402 (sc1 1402)) ar1 tx oc rl ou tl, q)) rfl ?_
              refine RQ.ret rfl rfl ?_
              rw [hfr] at hk
              have e9 : rfr tp (cls tp S) = sc1 1402 := by rw [rfr_e hfe]; exact e1.symm
              rw [e9] at hk
              exact hk _ _ (Same.tr hs1 (by repeat (first | exact Same.rf | refine Same.us rfl ?_))) ha1 rfl (fun z => absurd z hwn)
            · skip
              refine RQ.seg 4 (pc' := 85) (L' := [some (.ref 14), some (.int (iI ((n : Int) + 1)))]) (st' := [.int (iI (sc1 101)), .ref 14]) (g1 := (HW (usc (usc sc1 1401 (if lk tp (sc1 1401) = 59 then sk tp (sc1 1401) + 1 else sk tp (sc1 1401))) 1402 (sc1 1402)) ar1 tx oc rl ou tl, q)) rfl ?_
              refine RQ.to (L' := [some (.ref 14), some (.int (iI ((n : Int) + 1)))]) (st' := [.int (iI (tp.length : Int)), .ref 14]) rfl (by rw [show sc1 101 = (tp.length : Int) from hsq]) ?_
              have hcall := CallR.up (d' := d + 5) (x_refuse14 (K := K) (d := 0) (tx := tx) (oc := oc) (rl := rl) (ou := ou) (tl := tl) (q := q) (sc := usc (usc sc1 1401 (if lk tp (sc1 1401) = 59 then sk tp (sc1 1401) + 1 else sk tp (sc1 1401))) 1402 (sc1 1402)) (ar := ar1) (p := (tp.length : Int)) (by show -1 ≤ sc1 1402 ∧ sc1 1402 ≤ 200; omega)) (by omega)
              rw [show (if (usc (usc sc1 1401 (if lk tp (sc1 1401) = 59 then sk tp (sc1 1401) + 1 else sk tp (sc1 1401))) 1402 (sc1 1402)) 1402 = -1 then (tp.length : Int) else (usc (usc sc1 1401 (if lk tp (sc1 1401) = 59 then sk tp (sc1 1401) + 1 else sk tp (sc1 1401))) 1402 (sc1 1402)) 1402) = sc1 1402 from if_neg (by show ¬ sc1 1402 = -1; omega)] at hcall
              refine RQ.call rfl rfl hcall ?_
              refine RQ.hp (g1 := (HW (usc (usc sc1 1401 (if lk tp (sc1 1401) = 59 then sk tp (sc1 1401) + 1 else sk tp (sc1 1401))) 1402 (sc1 1402)) ar1 tx oc rl ou tl, q)) (HW_e (by rw [usc_uu _ 1402 _ _]; try rfl) rfl) ?_
              refine RQ.seg 2 (pc' := 92) (L' := [some (.ref 14), some (.int (iI ((n : Int) + 1)))]) (st' := [.int (iI (sc1 1402))]) (g1 := (HW (usc (usc sc1 1401 (if lk tp (sc1 1401) = 59 then sk tp (sc1 1401) + 1 else sk tp (sc1 1401))) 1402 (sc1 1402)) ar1 tx oc rl ou tl, q)) rfl ?_
              refine RQ.ret rfl rfl ?_
              rw [hfr] at hk
              have e9 : rfr tp (cls tp S) = sc1 1402 := by rw [rfr_e hfe]; exact e1.symm
              rw [e9] at hk
              exact hk _ _ (Same.tr hs1 (by repeat (first | exact Same.rf | refine Same.us rfl ?_))) ha1 rfl (fun z => absurd z hwn)
      · skip
        refine RQ.seg 4 (pc' := 64) (L' := [some (.ref 14), some (.int (iI (n : Int)))]) (st' := [.int (iI (sc1 1503))]) (g1 := (HW (usc sc1 1401 (sk tp (sc1 1401))) ar1 tx oc rl ou tl, q)) rfl ?_
        refine RQ.if1 (a := (sc1 1503)) rfl rfl rfl (by omega) (fun (h14 : sc1 1503 = 0) => ?_) (fun (h14 : ¬ sc1 1503 = 0) => ?_)
        · skip
          refine RQ.seg 4 (pc' := 85) (L' := [some (.ref 14), some (.int (iI (n : Int)))]) (st' := [.int (iI (sc1 101)), .ref 14]) (g1 := (HW (usc sc1 1401 (sk tp (sc1 1401))) ar1 tx oc rl ou tl, q)) rfl ?_
          refine RQ.to (L' := [some (.ref 14), some (.int (iI (n : Int)))]) (st' := [.int (iI (tp.length : Int)), .ref 14]) rfl (by rw [show sc1 101 = (tp.length : Int) from hsq]) ?_
          have hcall := CallR.up (d' := d + 5) (x_refuse14 (K := K) (d := 0) (tx := tx) (oc := oc) (rl := rl) (ou := ou) (tl := tl) (q := q) (sc := usc sc1 1401 (sk tp (sc1 1401))) (ar := ar1) (p := (tp.length : Int)) (by show -1 ≤ sc1 1402 ∧ sc1 1402 ≤ 200; omega)) (by omega)
          rw [show (if (usc sc1 1401 (sk tp (sc1 1401))) 1402 = -1 then (tp.length : Int) else (usc sc1 1401 (sk tp (sc1 1401))) 1402) = sc1 1402 from if_neg (by show ¬ sc1 1402 = -1; omega)] at hcall
          refine RQ.call rfl rfl hcall ?_
          refine RQ.seg 2 (pc' := 92) (L' := [some (.ref 14), some (.int (iI (n : Int)))]) (st' := [.int (iI (sc1 1402))]) (g1 := (HW (usc (usc sc1 1401 (sk tp (sc1 1401))) 1402 (sc1 1402)) ar1 tx oc rl ou tl, q)) rfl ?_
          refine RQ.ret rfl rfl ?_
          rw [hfr] at hk
          have e9 : rfr tp (cls tp S) = sc1 1402 := by rw [rfr_e hfe]; exact e1.symm
          rw [e9] at hk
          exact hk _ _ (Same.tr hs1 (by repeat (first | exact Same.rf | refine Same.us rfl ?_))) ha1 rfl (fun z => absurd z hwn)
        · skip
          refine RQ.seg 3 (pc' := 74) (L' := [some (.ref 14), some (.int (iI (n : Int)))]) (st' := [.int (iI (sc1 1504))]) (g1 := (HW (usc sc1 1401 (sk tp (sc1 1401))) ar1 tx oc rl ou tl, q)) rfl ?_
          refine RQ.if1 (a := (sc1 1504)) rfl rfl rfl (by omega) (fun (h15 : sc1 1504 ≠ 0) => ?_) (fun (h15 : ¬ sc1 1504 ≠ 0) => ?_)
          · skip
            refine RQ.seg 2 (pc' := 92) (L' := [some (.ref 14), some (.int (iI (n : Int)))]) (st' := [.int (iI (sc1 1402))]) (g1 := (HW (usc sc1 1401 (sk tp (sc1 1401))) ar1 tx oc rl ou tl, q)) rfl ?_
            refine RQ.ret rfl rfl ?_
            rw [hfr] at hk
            have e9 : rfr tp (cls tp S) = sc1 1402 := by rw [rfr_e hfe]; exact e1.symm
            rw [e9] at hk
            exact hk _ _ (Same.tr hs1 (by repeat (first | exact Same.rf | refine Same.us rfl ?_))) ha1 rfl (fun z => absurd z hwn)
          · skip
            refine RQ.seg 4 (pc' := 85) (L' := [some (.ref 14), some (.int (iI (n : Int)))]) (st' := [.int (iI (sc1 101)), .ref 14]) (g1 := (HW (usc sc1 1401 (sk tp (sc1 1401))) ar1 tx oc rl ou tl, q)) rfl ?_
            refine RQ.to (L' := [some (.ref 14), some (.int (iI (n : Int)))]) (st' := [.int (iI (tp.length : Int)), .ref 14]) rfl (by rw [show sc1 101 = (tp.length : Int) from hsq]) ?_
            have hcall := CallR.up (d' := d + 5) (x_refuse14 (K := K) (d := 0) (tx := tx) (oc := oc) (rl := rl) (ou := ou) (tl := tl) (q := q) (sc := usc sc1 1401 (sk tp (sc1 1401))) (ar := ar1) (p := (tp.length : Int)) (by show -1 ≤ sc1 1402 ∧ sc1 1402 ≤ 200; omega)) (by omega)
            rw [show (if (usc sc1 1401 (sk tp (sc1 1401))) 1402 = -1 then (tp.length : Int) else (usc sc1 1401 (sk tp (sc1 1401))) 1402) = sc1 1402 from if_neg (by show ¬ sc1 1402 = -1; omega)] at hcall
            refine RQ.call rfl rfl hcall ?_
            refine RQ.seg 2 (pc' := 92) (L' := [some (.ref 14), some (.int (iI (n : Int)))]) (st' := [.int (iI (sc1 1402))]) (g1 := (HW (usc (usc sc1 1401 (sk tp (sc1 1401))) 1402 (sc1 1402)) ar1 tx oc rl ou tl, q)) rfl ?_
            refine RQ.ret rfl rfl ?_
            rw [hfr] at hk
            have e9 : rfr tp (cls tp S) = sc1 1402 := by rw [rfr_e hfe]; exact e1.symm
            rw [e9] at hk
            exact hk _ _ (Same.tr hs1 (by repeat (first | exact Same.rf | refine Same.us rfl ?_))) ha1 rfl (fun z => absurd z hwn)
theorem x_clear {K : PK} {d : Nat} {sc : Nat → Int} {ar : Nat → Int → Int} {tx oc : Nat} {rl : Nat → Option Nat} {ou : Nat → Int64} {tl : List PO} {q : Nat × Nat} (hK4 : K 4 = some (4, zA kc4)) : CallR K (d + 1) 18 [.ref 15] (HW sc ar tx oc rl ou tl, q) none (HW (usc (usc sc 1503 0) 1504 0) (usc ar 25 (cpz kc4 (ar 25) 4)) tx oc rl ou tl, q) := by
  apply CQ.x
  refine CQ.of (own := 2) (n := 1) (ini := false) (rt := none) (cd := cd18) (by decide +kernel) rfl (by decide +kernel) rfl (Nat.le_of_ble_eq_true rfl) ?_
  refine RQ.seg 13 (pc' := 23) (L' := [some (.ref 15)]) (st' := [.ref 25, .int (iI 0), .ref 25, .int (iI 0), .retAddr 4]) (g1 := (HW (usc (usc sc 1503 0) 1504 0) ar tx oc rl ou tl, q)) rfl ?_
  refine RQ.alen rfl rfl ?_
  refine RQ.acpk (n := 4) (f := kc4) (f1 := (ar 25)) (g1 := (HW (usc (usc sc 1503 0) 1504 0) (usc ar 25 (cpz kc4 (ar 25) 4)) tx oc rl ou tl, q)) rfl (by decide +kernel) rfl hK4 rfl (by decide) (by decide) (by decide) (HWa_25 rfl) ?_
  refine RQ.ret rfl rfl ?_
  exact ⟨rfl, rfl⟩
theorem x_fwrong {K : PK} {d : Nat} {sc : Nat → Int} {ar : Nat → Int → Int} {tx oc : Nat} {rl : Nat → Option Nat} {ou : Nat → Int64} {tl : List PO} {q : Nat × Nat} {tp : List Int} (ht : TpOK tp) (hs : sc 101 = (tp.length : Int)) (hl : LAt (fun v => v) (ar 2) tp) (hK0 : K 0 = some (4, zA kc0)) (hK1 : K 1 = some (3, zA kc1)) (hK2 : K 2 = some (4, zA kc2)) (hK4 : K 4 = some (4, zA kc4)) (hK5 : K 5 = some (4, zA kc5)) (hK6 : K 6 = some (4, zA kc6)) (hK7 : K 7 = some (4, zA kc7)) (hK8 : K 8 = some (3, zA kc8)) (hK9 : K 9 = some (3, zA kc9)) (hK10 : K 10 = some (3, zA kc10)) (hK11 : K 11 = some (4, zA kc11)) (hK12 : K 12 = some (4, zA kc12)) : CQ K (d + 6) 25 [.ref 14] (HW sc ar tx oc rl ou tl, q) (fun r g' => r = some (.int (iI (frF tp))) ∧ ∃ sc' ar', g' = (HW sc' ar' tx oc rl ou tl, q) ∧ Same scF sc sc' ∧ Same scA ar ar' ∧ sc' 1402 = frF tp ∧ (frF tp = -1 → FdX (fr9 tp) sc' ar' ∧ FsOK tp (fr9 tp))) := by
  have ht1 := ht.1
  refine CQ.of (own := 3) (n := 2) (ini := false) (rt := (some .int)) (cd := cd25) (by decide +kernel) rfl (by decide +kernel) rfl (Nat.le_of_ble_eq_true rfl) ?_
  refine RQ.seg 1 (pc' := 1) (L' := [some (.ref 14), none]) (st' := [.ref 14]) (g1 := (HW sc ar tx oc rl ou tl, q)) rfl ?_
  refine RQ.call rfl rfl x_begin14 ?_
  refine RQ.seg 2 (pc' := 8) (L' := [some (.ref 14), none]) (st' := [.ref 15]) (g1 := (HW (usc (usc sc 1401 0) 1402 (-1)) ar tx oc rl ou tl, q)) rfl ?_
  refine RQ.call rfl rfl (x_clear hK4) ?_
  refine RQ.seg 5 (pc' := 18) (L' := [some (.ref 14), some (.int (iI 0))]) (st' := []) (g1 := (HW (usc (usc (usc (usc (usc sc 1401 0) 1402 (-1)) 1404 0) 1503 0) 1504 0) (usc ar 25 (cpz kc4 (ar 25) 4)) tx oc rl ou tl, q)) rfl ?_
  refine x_fw_l ht hK0 hK1 hK2 hK4 hK5 hK6 hK7 hK8 hK9 hK10 hK11 hK12 9 0 fr0 (usc (usc (usc (usc (usc sc 1401 0) 1402 (-1)) 1404 0) 1503 0) 1504 0) (usc ar 25 (cpz kc4 (ar 25) 4)) (by omega) hs hl ⟨⟨Int.le_refl _, by show (0 : Int) ≤ _; omega⟩, ⟨Int.le_refl _, by show (0 : Int) ≤ 4; omega⟩, ⟨Int.le_refl _, by show (0 : Int) ≤ 3; omega⟩, ⟨Int.le_refl _, by show (0 : Int) ≤ 1; omega⟩, fun _ => rfl⟩ ⟨rfl, rfl, rfl, rfl, fun j _ _ => ⟨fun z => absurd (show (0 : Int) < 0 from z) (by omega), fun z => absurd (show (1 : Int) < 0 from z) (by omega), fun z => absurd (show (2 : Int) < 0 from z) (by omega), fun z => absurd (show (3 : Int) < 0 from z) (by omega)⟩, fun j _ _ => ⟨fun z => absurd (show (0 : Int) < 0 from z) (by omega), fun z => absurd (show (1 : Int) < 0 from z) (by omega), fun z => absurd (show (2 : Int) < 0 from z) (by omega)⟩, fun j _ j1 => cpz_l j1⟩ rfl rfl rfl (fun sc' ar' z1 z2 z3 z4 => ⟨rfl, sc', ar', rfl, Same.tr (by repeat (first | exact Same.rf | refine Same.us rfl ?_)) z1, Same.tr (by repeat (first | exact Same.rf | refine Same.us rfl ?_)) z2, z3, z4⟩)
