/-! rests, most, loss, laws, bribe of the class, by wip/tools -/
theorem pyv_s {nw nb : Int} {W B : Int → Int → Int} {law : Int → Int} {i l u : Int} (h : pyn nw nb W B law i nb.toNat = some (l, u)) (hl : l ≤ u) : pyv nw nb W B law i = l := by
  unfold pyv
  rw [h]
  exact if_pos hl
theorem pyv_n {nw nb : Int} {W B : Int → Int → Int} {law : Int → Int} {i : Int} (h : pyn nw nb W B law i nb.toNat = none ∨ ∃ l u, pyn nw nb W B law i nb.toNat = some (l, u) ∧ u < l) : pyv nw nb W B law i = -1 := by
  unfold pyv
  rcases h with h | ⟨l, u, h, hl⟩
  · rw [h]
  · rw [h]; exact if_neg (by omega)
theorem x_compare {K : PK} {d : Nat} {sc : Nat → Int} {ar : Nat → Int → Int} {tx oc : Nat} {rl : Nat → Option Nat} {ou : Nat → Int64} {tl : List PO} {q : Nat × Nat} {nw nb : Int} {W B : Int → Int → Int} (hF : FrOK nw nb W B) (hX : FrX (sc 303) (sc 304) (ar 5) (ar 6) (ar 7) (ar 8) (ar 10) (ar 11) (ar 12) nw nb W B) {law : Int → Int} (hlw : ∀ j, 0 ≤ j → j < 4 → ar 32 j = law j) (hL : LwOK law) (hnb : 0 < nb) {r e : Int → Int} {n : Nat} (hS : RwS nw nb W B r e n oc tl sc ar) (hfl : 0 ≤ sc 7206 ∧ sc 7206 ≤ 1) (hKC : sc 7206 = 1 → sc 6306 = 1 ∧ sc 7209 = (lw3 (msv nw nb W B law)).1 ∧ sc 7210 = (lw3 (msv nw nb W B law)).2) : CQ K (d + 7) 63 [.ref 72] (HW sc ar tx oc rl ou tl, q) (fun rv g' => rv = none ∧ RwP nw nb W B oc n tl q tx rl ou g' (fun sc' ar' r' e' => Same cpF sc sc' ∧ Same rnA ar ar' ∧ sc' 7206 = 1 ∧ sc' 7209 = (lw3 (msv nw nb W B law)).1 ∧ sc' 7210 = (lw3 (msv nw nb W B law)).2 ∧ (sc 6306 = 1 → r' = r ∧ e' = e))) := by
  have hn := hF.1
  have hm1 := hX.1
  have hm2 := hX.2.1
  have hB := mny_b (nw := nw) (nb := nb) (W := W) (B := B) hF.1.2.1
  have ht3 := t3_r hB
  have hLL := hL
  unfold LwOK at hLL
  refine CQ.of (own := 5) (n := 3) (ini := false) (rt := none) (cd := cd63) (by decide +kernel) rfl (by decide +kernel) rfl (Nat.le_of_ble_eq_true rfl) ?_
  refine RQ.seg 2 (pc' := 4) (L' := [some (.ref 72), none, none]) (st' := [.int (iI (sc 7206))]) (g1 := (HW sc ar tx oc rl ou tl, q)) rfl ?_
  refine RQ.if1 (a := (sc 7206)) rfl rfl rfl (by omega) (fun (h1 : sc 7206 = 0) => ?_) (fun (h1 : ¬ sc 7206 = 0) => ?_)
  · skip
    refine RQ.seg 2 (pc' := 12) (L' := [some (.ref 72), none, none]) (st' := [.ref 63]) (g1 := (HW sc ar tx oc rl ou tl, q)) rfl ?_
    refine RQ.callQ rfl rfl ((x_findAll (d := 0) (sc := sc) (ar := ar) hF hX hnb hS).up (by omega)) (fun rv g1 hc => ?_)
    obtain ⟨rfl, sc1, ar1, j1, n1, f1, tl1, q1, r1, e1, rfl, hj1, hR1, htl1, hqn1, hs1, ha1, hre1⟩ := hc
    have hX1 := hX.sr hs1 ha1
    have hlw1 : ∀ j, 0 ≤ j → j < 4 → ar1 32 j = law j := fun j h0 h1 => (congrFun (ha1 32 rfl) j).trans (hlw j h0 h1)
    refine RQ.seg 8 (pc' := 27) (L' := [some (.ref 72), some (.int (iI 0)), none]) (st' := []) (g1 := (HW (usc (usc sc1 7209 (-1)) 7210 (-1)) ar1 tx (j1 + 118) rl ou (otl tl1 j1 n1 f1), q1)) rfl ?_
    refine RQ.seg 5 (pc' := 34) (L' := [some (.ref 72), some (.int (iI 0)), none]) (st' := [.int (iI 0), .ref 72]) (g1 := (HW (usc (usc sc1 7209 (-1)) 7210 (-1)) ar1 tx (j1 + 118) rl ou (otl tl1 j1 n1 f1), q1)) rfl ?_
    have hRx : RwK nw nb W B r1 e1 n1 f1 (usc (usc sc1 7209 (-1)) 7210 (-1)) (ar1) := hR1.fl rfl rfl rfl
    have hvq0 : -1 ≤ msv nw nb W B law 0 ∧ msv nw nb W B law 0 ≤ 36 := msr_r (rsv_r hF) _
    refine RQ.callQ rfl rfl (x_mostBy (sc := usc (usc sc1 7209 (-1)) 7210 (-1)) (q0 := 0) hF hX1 hj1 hRx hlw1 hL (by omega)) (fun rv g1 hc => ?_)
    obtain ⟨rfl, scq0, arq0, rfl, hsx, hax, hRq0⟩ := hc
    have hXq0 : FrX (scq0 303) (scq0 304) (arq0 5) (arq0 6) (arq0 7) (arq0 8) (arq0 10) (arq0 11) (arq0 12) nw nb W B := by rw [hsx 303 rfl, hsx 304 rfl, hax 5 rfl, hax 6 rfl, hax 7 rfl, hax 8 rfl, hax 10 rfl, hax 11 rfl, hax 12 rfl]; exact hX1
    have hlwq0 : ∀ j, 0 ≤ j → j < 4 → arq0 32 j = law j := fun j h0 h1 => (congrFun (hax 32 rfl) j).trans (hlw1 j h0 h1)
    have h9q0 : scq0 7209 = (-1) := (hsx 7209 rfl).trans rfl
    have h10q0 : scq0 7210 = (-1) := (hsx 7210 rfl).trans rfl
    have hsq0 : Same cpF sc scq0 := Same.tr (Same.tr (hs1.w rfl) (Same.us rfl (Same.us rfl Same.rf))) (hsx.w rfl)
    have haq0 : Same rnA ar arq0 := Same.tr ha1 (hax.w rfl)
    refine RQ.seg 4 (pc' := 43) (L' := [some (.ref 72), some (.int (iI 0)), some (.int (iI (msv nw nb W B law 0)))]) (st' := [.int (iI (scq0 7210)), .int (iI (msv nw nb W B law 0))]) (g1 := (HW scq0 arq0 tx (j1 + 118) rl ou (otl tl1 j1 n1 f1), q1)) rfl ?_
    refine RQ.to (L' := [some (.ref 72), some (.int (iI 0)), some (.int (iI (msv nw nb W B law 0)))]) (st' := [.int (iI (-1)), .int (iI (msv nw nb W B law 0))]) rfl (by rw [show scq0 7210 = (-1) from h10q0]) ?_
    refine RQ.if2 (a := (msv nw nb W B law 0)) (b := (-1)) rfl rfl rfl rfl (by omega) (by omega) (fun (h2 : msv nw nb W B law 0 ≤ (-1)) => ?_) (fun (h2 : ¬ msv nw nb W B law 0 ≤ (-1)) => ?_)
    · skip
      refine RQ.seg 2 (pc' := 27) (L' := [some (.ref 72), some (.int (iI 1)), some (.int (iI (msv nw nb W B law 0)))]) (st' := []) (g1 := (HW scq0 arq0 tx (j1 + 118) rl ou (otl tl1 j1 n1 f1), q1)) rfl ?_
      have eq0 : lw1 ((-1, -1) : Int × Int) 0 (msv nw nb W B law 0) = (((-1), (-1)) : Int × Int) := by unfold lw1; first | exact if_pos (by dsimp only; omega) | exact if_neg (by dsimp only; omega)
      refine RQ.seg 5 (pc' := 34) (L' := [some (.ref 72), some (.int (iI 1)), some (.int (iI (msv nw nb W B law 0)))]) (st' := [.int (iI 1), .ref 72]) (g1 := (HW scq0 arq0 tx (j1 + 118) rl ou (otl tl1 j1 n1 f1), q1)) rfl ?_
      have hvq1 : -1 ≤ msv nw nb W B law 1 ∧ msv nw nb W B law 1 ≤ 36 := msr_r (rsv_r hF) _
      refine RQ.callQ rfl rfl (x_mostBy (sc := scq0) (q0 := 1) hF hXq0 hj1 hRq0 hlwq0 hL (by omega)) (fun rv g1 hc => ?_)
      obtain ⟨rfl, scq1, arq1, rfl, hsx, hax, hRq1⟩ := hc
      have hXq1 : FrX (scq1 303) (scq1 304) (arq1 5) (arq1 6) (arq1 7) (arq1 8) (arq1 10) (arq1 11) (arq1 12) nw nb W B := by rw [hsx 303 rfl, hsx 304 rfl, hax 5 rfl, hax 6 rfl, hax 7 rfl, hax 8 rfl, hax 10 rfl, hax 11 rfl, hax 12 rfl]; exact hXq0
      have hlwq1 : ∀ j, 0 ≤ j → j < 4 → arq1 32 j = law j := fun j h0 h1 => (congrFun (hax 32 rfl) j).trans (hlwq0 j h0 h1)
      have h9q1 : scq1 7209 = (-1) := (hsx 7209 rfl).trans h9q0
      have h10q1 : scq1 7210 = (-1) := (hsx 7210 rfl).trans h10q0
      have hsq1 : Same cpF sc scq1 := Same.tr hsq0 (hsx.w rfl)
      have haq1 : Same rnA ar arq1 := Same.tr haq0 (hax.w rfl)
      refine RQ.seg 4 (pc' := 43) (L' := [some (.ref 72), some (.int (iI 1)), some (.int (iI (msv nw nb W B law 1)))]) (st' := [.int (iI (scq1 7210)), .int (iI (msv nw nb W B law 1))]) (g1 := (HW scq1 arq1 tx (j1 + 118) rl ou (otl tl1 j1 n1 f1), q1)) rfl ?_
      refine RQ.to (L' := [some (.ref 72), some (.int (iI 1)), some (.int (iI (msv nw nb W B law 1)))]) (st' := [.int (iI (-1)), .int (iI (msv nw nb W B law 1))]) rfl (by rw [show scq1 7210 = (-1) from h10q1]) ?_
      refine RQ.if2 (a := (msv nw nb W B law 1)) (b := (-1)) rfl rfl rfl rfl (by omega) (by omega) (fun (h3 : msv nw nb W B law 1 ≤ (-1)) => ?_) (fun (h3 : ¬ msv nw nb W B law 1 ≤ (-1)) => ?_)
      · skip
        refine RQ.seg 2 (pc' := 27) (L' := [some (.ref 72), some (.int (iI 2)), some (.int (iI (msv nw nb W B law 1)))]) (st' := []) (g1 := (HW scq1 arq1 tx (j1 + 118) rl ou (otl tl1 j1 n1 f1), q1)) rfl ?_
        have eq1 : lw1 (((-1), (-1)) : Int × Int) 1 (msv nw nb W B law 1) = (((-1), (-1)) : Int × Int) := by unfold lw1; first | exact if_pos (by dsimp only; omega) | exact if_neg (by dsimp only; omega)
        refine RQ.seg 5 (pc' := 34) (L' := [some (.ref 72), some (.int (iI 2)), some (.int (iI (msv nw nb W B law 1)))]) (st' := [.int (iI 2), .ref 72]) (g1 := (HW scq1 arq1 tx (j1 + 118) rl ou (otl tl1 j1 n1 f1), q1)) rfl ?_
        have hvq2 : -1 ≤ msv nw nb W B law 2 ∧ msv nw nb W B law 2 ≤ 36 := msr_r (rsv_r hF) _
        refine RQ.callQ rfl rfl (x_mostBy (sc := scq1) (q0 := 2) hF hXq1 hj1 hRq1 hlwq1 hL (by omega)) (fun rv g1 hc => ?_)
        obtain ⟨rfl, scq2, arq2, rfl, hsx, hax, hRq2⟩ := hc
        have hXq2 : FrX (scq2 303) (scq2 304) (arq2 5) (arq2 6) (arq2 7) (arq2 8) (arq2 10) (arq2 11) (arq2 12) nw nb W B := by rw [hsx 303 rfl, hsx 304 rfl, hax 5 rfl, hax 6 rfl, hax 7 rfl, hax 8 rfl, hax 10 rfl, hax 11 rfl, hax 12 rfl]; exact hXq1
        have hlwq2 : ∀ j, 0 ≤ j → j < 4 → arq2 32 j = law j := fun j h0 h1 => (congrFun (hax 32 rfl) j).trans (hlwq1 j h0 h1)
        have h9q2 : scq2 7209 = (-1) := (hsx 7209 rfl).trans h9q1
        have h10q2 : scq2 7210 = (-1) := (hsx 7210 rfl).trans h10q1
        have hsq2 : Same cpF sc scq2 := Same.tr hsq1 (hsx.w rfl)
        have haq2 : Same rnA ar arq2 := Same.tr haq1 (hax.w rfl)
        refine RQ.seg 4 (pc' := 43) (L' := [some (.ref 72), some (.int (iI 2)), some (.int (iI (msv nw nb W B law 2)))]) (st' := [.int (iI (scq2 7210)), .int (iI (msv nw nb W B law 2))]) (g1 := (HW scq2 arq2 tx (j1 + 118) rl ou (otl tl1 j1 n1 f1), q1)) rfl ?_
        refine RQ.to (L' := [some (.ref 72), some (.int (iI 2)), some (.int (iI (msv nw nb W B law 2)))]) (st' := [.int (iI (-1)), .int (iI (msv nw nb W B law 2))]) rfl (by rw [show scq2 7210 = (-1) from h10q2]) ?_
        refine RQ.if2 (a := (msv nw nb W B law 2)) (b := (-1)) rfl rfl rfl rfl (by omega) (by omega) (fun (h4 : msv nw nb W B law 2 ≤ (-1)) => ?_) (fun (h4 : ¬ msv nw nb W B law 2 ≤ (-1)) => ?_)
        · skip
          refine RQ.seg 2 (pc' := 27) (L' := [some (.ref 72), some (.int (iI 3)), some (.int (iI (msv nw nb W B law 2)))]) (st' := []) (g1 := (HW scq2 arq2 tx (j1 + 118) rl ou (otl tl1 j1 n1 f1), q1)) rfl ?_
          have eq2 : lw1 (((-1), (-1)) : Int × Int) 2 (msv nw nb W B law 2) = (((-1), (-1)) : Int × Int) := by unfold lw1; first | exact if_pos (by dsimp only; omega) | exact if_neg (by dsimp only; omega)
          refine RQ.seg 6 (pc' := 67) (L' := [some (.ref 72), some (.int (iI 3)), some (.int (iI (msv nw nb W B law 2)))]) (st' := []) (g1 := (HW (usc scq2 7206 1) arq2 tx (j1 + 118) rl ou (otl tl1 j1 n1 f1), q1)) rfl ?_
          refine RQ.ret rfl rfl ?_
          have e9 : lw3 (msv nw nb W B law) = (((-1), (-1)) : Int × Int) := by unfold lw3; rw [eq0, eq1, eq2]
          rw [e9]
          exact ⟨rfl, _, arq2, j1, n1, f1, tl1, q1, r1, e1, rfl, hj1, hRq2.fl rfl rfl rfl, htl1, hqn1, Same.tr hsq2 (Same.us rfl Same.rf), haq2, rfl, h9q2, h10q2, hre1⟩
        · skip
          refine RQ.seg 8 (pc' := 27) (L' := [some (.ref 72), some (.int (iI 3)), some (.int (iI (msv nw nb W B law 2)))]) (st' := []) (g1 := (HW (usc (usc scq2 7209 2) 7210 (msv nw nb W B law 2)) arq2 tx (j1 + 118) rl ou (otl tl1 j1 n1 f1), q1)) rfl ?_
          have eq2 : lw1 (((-1), (-1)) : Int × Int) 2 (msv nw nb W B law 2) = ((2, msv nw nb W B law 2) : Int × Int) := by unfold lw1; first | exact if_pos (by dsimp only; omega) | exact if_neg (by dsimp only; omega)
          refine RQ.seg 6 (pc' := 67) (L' := [some (.ref 72), some (.int (iI 3)), some (.int (iI (msv nw nb W B law 2)))]) (st' := []) (g1 := (HW (usc (usc (usc scq2 7206 1) 7209 2) 7210 (msv nw nb W B law 2)) arq2 tx (j1 + 118) rl ou (otl tl1 j1 n1 f1), q1)) rfl ?_
          refine RQ.ret rfl rfl ?_
          have e9 : lw3 (msv nw nb W B law) = ((2, msv nw nb W B law 2) : Int × Int) := by unfold lw3; rw [eq0, eq1, eq2]
          rw [e9]
          exact ⟨rfl, _, arq2, j1, n1, f1, tl1, q1, r1, e1, rfl, hj1, hRq2.fl rfl rfl rfl, htl1, hqn1, Same.tr hsq2 (Same.us rfl (Same.us rfl (Same.us rfl Same.rf))), haq2, rfl, rfl, rfl, hre1⟩
      · skip
        refine RQ.seg 8 (pc' := 27) (L' := [some (.ref 72), some (.int (iI 2)), some (.int (iI (msv nw nb W B law 1)))]) (st' := []) (g1 := (HW (usc (usc scq1 7209 1) 7210 (msv nw nb W B law 1)) arq1 tx (j1 + 118) rl ou (otl tl1 j1 n1 f1), q1)) rfl ?_
        have eq1 : lw1 (((-1), (-1)) : Int × Int) 1 (msv nw nb W B law 1) = ((1, msv nw nb W B law 1) : Int × Int) := by unfold lw1; first | exact if_pos (by dsimp only; omega) | exact if_neg (by dsimp only; omega)
        refine RQ.seg 5 (pc' := 34) (L' := [some (.ref 72), some (.int (iI 2)), some (.int (iI (msv nw nb W B law 1)))]) (st' := [.int (iI 2), .ref 72]) (g1 := (HW (usc (usc scq1 7209 1) 7210 (msv nw nb W B law 1)) arq1 tx (j1 + 118) rl ou (otl tl1 j1 n1 f1), q1)) rfl ?_
        have hRx : RwK nw nb W B r1 e1 n1 f1 (usc (usc scq1 7209 1) 7210 (msv nw nb W B law 1)) (arq1) := hRq1.fl rfl rfl rfl
        have hvq2 : -1 ≤ msv nw nb W B law 2 ∧ msv nw nb W B law 2 ≤ 36 := msr_r (rsv_r hF) _
        refine RQ.callQ rfl rfl (x_mostBy (sc := usc (usc scq1 7209 1) 7210 (msv nw nb W B law 1)) (q0 := 2) hF hXq1 hj1 hRx hlwq1 hL (by omega)) (fun rv g1 hc => ?_)
        obtain ⟨rfl, scq2, arq2, rfl, hsx, hax, hRq2⟩ := hc
        have hXq2 : FrX (scq2 303) (scq2 304) (arq2 5) (arq2 6) (arq2 7) (arq2 8) (arq2 10) (arq2 11) (arq2 12) nw nb W B := by rw [hsx 303 rfl, hsx 304 rfl, hax 5 rfl, hax 6 rfl, hax 7 rfl, hax 8 rfl, hax 10 rfl, hax 11 rfl, hax 12 rfl]; exact hXq1
        have hlwq2 : ∀ j, 0 ≤ j → j < 4 → arq2 32 j = law j := fun j h0 h1 => (congrFun (hax 32 rfl) j).trans (hlwq1 j h0 h1)
        have h9q2 : scq2 7209 = 1 := (hsx 7209 rfl).trans rfl
        have h10q2 : scq2 7210 = msv nw nb W B law 1 := (hsx 7210 rfl).trans rfl
        have hsq2 : Same cpF sc scq2 := Same.tr (Same.tr hsq1 (Same.us rfl (Same.us rfl Same.rf))) (hsx.w rfl)
        have haq2 : Same rnA ar arq2 := Same.tr haq1 (hax.w rfl)
        refine RQ.seg 4 (pc' := 43) (L' := [some (.ref 72), some (.int (iI 2)), some (.int (iI (msv nw nb W B law 2)))]) (st' := [.int (iI (scq2 7210)), .int (iI (msv nw nb W B law 2))]) (g1 := (HW scq2 arq2 tx (j1 + 118) rl ou (otl tl1 j1 n1 f1), q1)) rfl ?_
        refine RQ.to (L' := [some (.ref 72), some (.int (iI 2)), some (.int (iI (msv nw nb W B law 2)))]) (st' := [.int (iI (msv nw nb W B law 1)), .int (iI (msv nw nb W B law 2))]) rfl (by rw [show scq2 7210 = msv nw nb W B law 1 from h10q2]) ?_
        refine RQ.if2 (a := (msv nw nb W B law 2)) (b := (msv nw nb W B law 1)) rfl rfl rfl rfl (by omega) (by omega) (fun (h5 : msv nw nb W B law 2 ≤ msv nw nb W B law 1) => ?_) (fun (h5 : ¬ msv nw nb W B law 2 ≤ msv nw nb W B law 1) => ?_)
        · skip
          refine RQ.seg 2 (pc' := 27) (L' := [some (.ref 72), some (.int (iI 3)), some (.int (iI (msv nw nb W B law 2)))]) (st' := []) (g1 := (HW scq2 arq2 tx (j1 + 118) rl ou (otl tl1 j1 n1 f1), q1)) rfl ?_
          have eq2 : lw1 ((1, msv nw nb W B law 1) : Int × Int) 2 (msv nw nb W B law 2) = ((1, msv nw nb W B law 1) : Int × Int) := by unfold lw1; first | exact if_pos (by dsimp only; omega) | exact if_neg (by dsimp only; omega)
          refine RQ.seg 6 (pc' := 67) (L' := [some (.ref 72), some (.int (iI 3)), some (.int (iI (msv nw nb W B law 2)))]) (st' := []) (g1 := (HW (usc scq2 7206 1) arq2 tx (j1 + 118) rl ou (otl tl1 j1 n1 f1), q1)) rfl ?_
          refine RQ.ret rfl rfl ?_
          have e9 : lw3 (msv nw nb W B law) = ((1, msv nw nb W B law 1) : Int × Int) := by unfold lw3; rw [eq0, eq1, eq2]
          rw [e9]
          exact ⟨rfl, _, arq2, j1, n1, f1, tl1, q1, r1, e1, rfl, hj1, hRq2.fl rfl rfl rfl, htl1, hqn1, Same.tr hsq2 (Same.us rfl Same.rf), haq2, rfl, h9q2, h10q2, hre1⟩
        · skip
          refine RQ.seg 8 (pc' := 27) (L' := [some (.ref 72), some (.int (iI 3)), some (.int (iI (msv nw nb W B law 2)))]) (st' := []) (g1 := (HW (usc (usc scq2 7209 2) 7210 (msv nw nb W B law 2)) arq2 tx (j1 + 118) rl ou (otl tl1 j1 n1 f1), q1)) rfl ?_
          have eq2 : lw1 ((1, msv nw nb W B law 1) : Int × Int) 2 (msv nw nb W B law 2) = ((2, msv nw nb W B law 2) : Int × Int) := by unfold lw1; first | exact if_pos (by dsimp only; omega) | exact if_neg (by dsimp only; omega)
          refine RQ.seg 6 (pc' := 67) (L' := [some (.ref 72), some (.int (iI 3)), some (.int (iI (msv nw nb W B law 2)))]) (st' := []) (g1 := (HW (usc (usc (usc scq2 7206 1) 7209 2) 7210 (msv nw nb W B law 2)) arq2 tx (j1 + 118) rl ou (otl tl1 j1 n1 f1), q1)) rfl ?_
          refine RQ.ret rfl rfl ?_
          have e9 : lw3 (msv nw nb W B law) = ((2, msv nw nb W B law 2) : Int × Int) := by unfold lw3; rw [eq0, eq1, eq2]
          rw [e9]
          exact ⟨rfl, _, arq2, j1, n1, f1, tl1, q1, r1, e1, rfl, hj1, hRq2.fl rfl rfl rfl, htl1, hqn1, Same.tr hsq2 (Same.us rfl (Same.us rfl (Same.us rfl Same.rf))), haq2, rfl, rfl, rfl, hre1⟩
    · skip
      refine RQ.seg 8 (pc' := 27) (L' := [some (.ref 72), some (.int (iI 1)), some (.int (iI (msv nw nb W B law 0)))]) (st' := []) (g1 := (HW (usc (usc scq0 7209 0) 7210 (msv nw nb W B law 0)) arq0 tx (j1 + 118) rl ou (otl tl1 j1 n1 f1), q1)) rfl ?_
      have eq0 : lw1 ((-1, -1) : Int × Int) 0 (msv nw nb W B law 0) = ((0, msv nw nb W B law 0) : Int × Int) := by unfold lw1; first | exact if_pos (by dsimp only; omega) | exact if_neg (by dsimp only; omega)
      refine RQ.seg 5 (pc' := 34) (L' := [some (.ref 72), some (.int (iI 1)), some (.int (iI (msv nw nb W B law 0)))]) (st' := [.int (iI 1), .ref 72]) (g1 := (HW (usc (usc scq0 7209 0) 7210 (msv nw nb W B law 0)) arq0 tx (j1 + 118) rl ou (otl tl1 j1 n1 f1), q1)) rfl ?_
      have hRx : RwK nw nb W B r1 e1 n1 f1 (usc (usc scq0 7209 0) 7210 (msv nw nb W B law 0)) (arq0) := hRq0.fl rfl rfl rfl
      have hvq1 : -1 ≤ msv nw nb W B law 1 ∧ msv nw nb W B law 1 ≤ 36 := msr_r (rsv_r hF) _
      refine RQ.callQ rfl rfl (x_mostBy (sc := usc (usc scq0 7209 0) 7210 (msv nw nb W B law 0)) (q0 := 1) hF hXq0 hj1 hRx hlwq0 hL (by omega)) (fun rv g1 hc => ?_)
      obtain ⟨rfl, scq1, arq1, rfl, hsx, hax, hRq1⟩ := hc
      have hXq1 : FrX (scq1 303) (scq1 304) (arq1 5) (arq1 6) (arq1 7) (arq1 8) (arq1 10) (arq1 11) (arq1 12) nw nb W B := by rw [hsx 303 rfl, hsx 304 rfl, hax 5 rfl, hax 6 rfl, hax 7 rfl, hax 8 rfl, hax 10 rfl, hax 11 rfl, hax 12 rfl]; exact hXq0
      have hlwq1 : ∀ j, 0 ≤ j → j < 4 → arq1 32 j = law j := fun j h0 h1 => (congrFun (hax 32 rfl) j).trans (hlwq0 j h0 h1)
      have h9q1 : scq1 7209 = 0 := (hsx 7209 rfl).trans rfl
      have h10q1 : scq1 7210 = msv nw nb W B law 0 := (hsx 7210 rfl).trans rfl
      have hsq1 : Same cpF sc scq1 := Same.tr (Same.tr hsq0 (Same.us rfl (Same.us rfl Same.rf))) (hsx.w rfl)
      have haq1 : Same rnA ar arq1 := Same.tr haq0 (hax.w rfl)
      refine RQ.seg 4 (pc' := 43) (L' := [some (.ref 72), some (.int (iI 1)), some (.int (iI (msv nw nb W B law 1)))]) (st' := [.int (iI (scq1 7210)), .int (iI (msv nw nb W B law 1))]) (g1 := (HW scq1 arq1 tx (j1 + 118) rl ou (otl tl1 j1 n1 f1), q1)) rfl ?_
      refine RQ.to (L' := [some (.ref 72), some (.int (iI 1)), some (.int (iI (msv nw nb W B law 1)))]) (st' := [.int (iI (msv nw nb W B law 0)), .int (iI (msv nw nb W B law 1))]) rfl (by rw [show scq1 7210 = msv nw nb W B law 0 from h10q1]) ?_
      refine RQ.if2 (a := (msv nw nb W B law 1)) (b := (msv nw nb W B law 0)) rfl rfl rfl rfl (by omega) (by omega) (fun (h6 : msv nw nb W B law 1 ≤ msv nw nb W B law 0) => ?_) (fun (h6 : ¬ msv nw nb W B law 1 ≤ msv nw nb W B law 0) => ?_)
      · skip
        refine RQ.seg 2 (pc' := 27) (L' := [some (.ref 72), some (.int (iI 2)), some (.int (iI (msv nw nb W B law 1)))]) (st' := []) (g1 := (HW scq1 arq1 tx (j1 + 118) rl ou (otl tl1 j1 n1 f1), q1)) rfl ?_
        have eq1 : lw1 ((0, msv nw nb W B law 0) : Int × Int) 1 (msv nw nb W B law 1) = ((0, msv nw nb W B law 0) : Int × Int) := by unfold lw1; first | exact if_pos (by dsimp only; omega) | exact if_neg (by dsimp only; omega)
        refine RQ.seg 5 (pc' := 34) (L' := [some (.ref 72), some (.int (iI 2)), some (.int (iI (msv nw nb W B law 1)))]) (st' := [.int (iI 2), .ref 72]) (g1 := (HW scq1 arq1 tx (j1 + 118) rl ou (otl tl1 j1 n1 f1), q1)) rfl ?_
        have hvq2 : -1 ≤ msv nw nb W B law 2 ∧ msv nw nb W B law 2 ≤ 36 := msr_r (rsv_r hF) _
        refine RQ.callQ rfl rfl (x_mostBy (sc := scq1) (q0 := 2) hF hXq1 hj1 hRq1 hlwq1 hL (by omega)) (fun rv g1 hc => ?_)
        obtain ⟨rfl, scq2, arq2, rfl, hsx, hax, hRq2⟩ := hc
        have hXq2 : FrX (scq2 303) (scq2 304) (arq2 5) (arq2 6) (arq2 7) (arq2 8) (arq2 10) (arq2 11) (arq2 12) nw nb W B := by rw [hsx 303 rfl, hsx 304 rfl, hax 5 rfl, hax 6 rfl, hax 7 rfl, hax 8 rfl, hax 10 rfl, hax 11 rfl, hax 12 rfl]; exact hXq1
        have hlwq2 : ∀ j, 0 ≤ j → j < 4 → arq2 32 j = law j := fun j h0 h1 => (congrFun (hax 32 rfl) j).trans (hlwq1 j h0 h1)
        have h9q2 : scq2 7209 = 0 := (hsx 7209 rfl).trans h9q1
        have h10q2 : scq2 7210 = msv nw nb W B law 0 := (hsx 7210 rfl).trans h10q1
        have hsq2 : Same cpF sc scq2 := Same.tr hsq1 (hsx.w rfl)
        have haq2 : Same rnA ar arq2 := Same.tr haq1 (hax.w rfl)
        refine RQ.seg 4 (pc' := 43) (L' := [some (.ref 72), some (.int (iI 2)), some (.int (iI (msv nw nb W B law 2)))]) (st' := [.int (iI (scq2 7210)), .int (iI (msv nw nb W B law 2))]) (g1 := (HW scq2 arq2 tx (j1 + 118) rl ou (otl tl1 j1 n1 f1), q1)) rfl ?_
        refine RQ.to (L' := [some (.ref 72), some (.int (iI 2)), some (.int (iI (msv nw nb W B law 2)))]) (st' := [.int (iI (msv nw nb W B law 0)), .int (iI (msv nw nb W B law 2))]) rfl (by rw [show scq2 7210 = msv nw nb W B law 0 from h10q2]) ?_
        refine RQ.if2 (a := (msv nw nb W B law 2)) (b := (msv nw nb W B law 0)) rfl rfl rfl rfl (by omega) (by omega) (fun (h7 : msv nw nb W B law 2 ≤ msv nw nb W B law 0) => ?_) (fun (h7 : ¬ msv nw nb W B law 2 ≤ msv nw nb W B law 0) => ?_)
        · skip
          refine RQ.seg 2 (pc' := 27) (L' := [some (.ref 72), some (.int (iI 3)), some (.int (iI (msv nw nb W B law 2)))]) (st' := []) (g1 := (HW scq2 arq2 tx (j1 + 118) rl ou (otl tl1 j1 n1 f1), q1)) rfl ?_
          have eq2 : lw1 ((0, msv nw nb W B law 0) : Int × Int) 2 (msv nw nb W B law 2) = ((0, msv nw nb W B law 0) : Int × Int) := by unfold lw1; first | exact if_pos (by dsimp only; omega) | exact if_neg (by dsimp only; omega)
          refine RQ.seg 6 (pc' := 67) (L' := [some (.ref 72), some (.int (iI 3)), some (.int (iI (msv nw nb W B law 2)))]) (st' := []) (g1 := (HW (usc scq2 7206 1) arq2 tx (j1 + 118) rl ou (otl tl1 j1 n1 f1), q1)) rfl ?_
          refine RQ.ret rfl rfl ?_
          have e9 : lw3 (msv nw nb W B law) = ((0, msv nw nb W B law 0) : Int × Int) := by unfold lw3; rw [eq0, eq1, eq2]
          rw [e9]
          exact ⟨rfl, _, arq2, j1, n1, f1, tl1, q1, r1, e1, rfl, hj1, hRq2.fl rfl rfl rfl, htl1, hqn1, Same.tr hsq2 (Same.us rfl Same.rf), haq2, rfl, h9q2, h10q2, hre1⟩
        · skip
          refine RQ.seg 8 (pc' := 27) (L' := [some (.ref 72), some (.int (iI 3)), some (.int (iI (msv nw nb W B law 2)))]) (st' := []) (g1 := (HW (usc (usc scq2 7209 2) 7210 (msv nw nb W B law 2)) arq2 tx (j1 + 118) rl ou (otl tl1 j1 n1 f1), q1)) rfl ?_
          have eq2 : lw1 ((0, msv nw nb W B law 0) : Int × Int) 2 (msv nw nb W B law 2) = ((2, msv nw nb W B law 2) : Int × Int) := by unfold lw1; first | exact if_pos (by dsimp only; omega) | exact if_neg (by dsimp only; omega)
          refine RQ.seg 6 (pc' := 67) (L' := [some (.ref 72), some (.int (iI 3)), some (.int (iI (msv nw nb W B law 2)))]) (st' := []) (g1 := (HW (usc (usc (usc scq2 7206 1) 7209 2) 7210 (msv nw nb W B law 2)) arq2 tx (j1 + 118) rl ou (otl tl1 j1 n1 f1), q1)) rfl ?_
          refine RQ.ret rfl rfl ?_
          have e9 : lw3 (msv nw nb W B law) = ((2, msv nw nb W B law 2) : Int × Int) := by unfold lw3; rw [eq0, eq1, eq2]
          rw [e9]
          exact ⟨rfl, _, arq2, j1, n1, f1, tl1, q1, r1, e1, rfl, hj1, hRq2.fl rfl rfl rfl, htl1, hqn1, Same.tr hsq2 (Same.us rfl (Same.us rfl (Same.us rfl Same.rf))), haq2, rfl, rfl, rfl, hre1⟩
      · skip
        refine RQ.seg 8 (pc' := 27) (L' := [some (.ref 72), some (.int (iI 2)), some (.int (iI (msv nw nb W B law 1)))]) (st' := []) (g1 := (HW (usc (usc scq1 7209 1) 7210 (msv nw nb W B law 1)) arq1 tx (j1 + 118) rl ou (otl tl1 j1 n1 f1), q1)) rfl ?_
        have eq1 : lw1 ((0, msv nw nb W B law 0) : Int × Int) 1 (msv nw nb W B law 1) = ((1, msv nw nb W B law 1) : Int × Int) := by unfold lw1; first | exact if_pos (by dsimp only; omega) | exact if_neg (by dsimp only; omega)
        refine RQ.seg 5 (pc' := 34) (L' := [some (.ref 72), some (.int (iI 2)), some (.int (iI (msv nw nb W B law 1)))]) (st' := [.int (iI 2), .ref 72]) (g1 := (HW (usc (usc scq1 7209 1) 7210 (msv nw nb W B law 1)) arq1 tx (j1 + 118) rl ou (otl tl1 j1 n1 f1), q1)) rfl ?_
        have hRx : RwK nw nb W B r1 e1 n1 f1 (usc (usc scq1 7209 1) 7210 (msv nw nb W B law 1)) (arq1) := hRq1.fl rfl rfl rfl
        have hvq2 : -1 ≤ msv nw nb W B law 2 ∧ msv nw nb W B law 2 ≤ 36 := msr_r (rsv_r hF) _
        refine RQ.callQ rfl rfl (x_mostBy (sc := usc (usc scq1 7209 1) 7210 (msv nw nb W B law 1)) (q0 := 2) hF hXq1 hj1 hRx hlwq1 hL (by omega)) (fun rv g1 hc => ?_)
        obtain ⟨rfl, scq2, arq2, rfl, hsx, hax, hRq2⟩ := hc
        have hXq2 : FrX (scq2 303) (scq2 304) (arq2 5) (arq2 6) (arq2 7) (arq2 8) (arq2 10) (arq2 11) (arq2 12) nw nb W B := by rw [hsx 303 rfl, hsx 304 rfl, hax 5 rfl, hax 6 rfl, hax 7 rfl, hax 8 rfl, hax 10 rfl, hax 11 rfl, hax 12 rfl]; exact hXq1
        have hlwq2 : ∀ j, 0 ≤ j → j < 4 → arq2 32 j = law j := fun j h0 h1 => (congrFun (hax 32 rfl) j).trans (hlwq1 j h0 h1)
        have h9q2 : scq2 7209 = 1 := (hsx 7209 rfl).trans rfl
        have h10q2 : scq2 7210 = msv nw nb W B law 1 := (hsx 7210 rfl).trans rfl
        have hsq2 : Same cpF sc scq2 := Same.tr (Same.tr hsq1 (Same.us rfl (Same.us rfl Same.rf))) (hsx.w rfl)
        have haq2 : Same rnA ar arq2 := Same.tr haq1 (hax.w rfl)
        refine RQ.seg 4 (pc' := 43) (L' := [some (.ref 72), some (.int (iI 2)), some (.int (iI (msv nw nb W B law 2)))]) (st' := [.int (iI (scq2 7210)), .int (iI (msv nw nb W B law 2))]) (g1 := (HW scq2 arq2 tx (j1 + 118) rl ou (otl tl1 j1 n1 f1), q1)) rfl ?_
        refine RQ.to (L' := [some (.ref 72), some (.int (iI 2)), some (.int (iI (msv nw nb W B law 2)))]) (st' := [.int (iI (msv nw nb W B law 1)), .int (iI (msv nw nb W B law 2))]) rfl (by rw [show scq2 7210 = msv nw nb W B law 1 from h10q2]) ?_
        refine RQ.if2 (a := (msv nw nb W B law 2)) (b := (msv nw nb W B law 1)) rfl rfl rfl rfl (by omega) (by omega) (fun (h8 : msv nw nb W B law 2 ≤ msv nw nb W B law 1) => ?_) (fun (h8 : ¬ msv nw nb W B law 2 ≤ msv nw nb W B law 1) => ?_)
        · skip
          refine RQ.seg 2 (pc' := 27) (L' := [some (.ref 72), some (.int (iI 3)), some (.int (iI (msv nw nb W B law 2)))]) (st' := []) (g1 := (HW scq2 arq2 tx (j1 + 118) rl ou (otl tl1 j1 n1 f1), q1)) rfl ?_
          have eq2 : lw1 ((1, msv nw nb W B law 1) : Int × Int) 2 (msv nw nb W B law 2) = ((1, msv nw nb W B law 1) : Int × Int) := by unfold lw1; first | exact if_pos (by dsimp only; omega) | exact if_neg (by dsimp only; omega)
          refine RQ.seg 6 (pc' := 67) (L' := [some (.ref 72), some (.int (iI 3)), some (.int (iI (msv nw nb W B law 2)))]) (st' := []) (g1 := (HW (usc scq2 7206 1) arq2 tx (j1 + 118) rl ou (otl tl1 j1 n1 f1), q1)) rfl ?_
          refine RQ.ret rfl rfl ?_
          have e9 : lw3 (msv nw nb W B law) = ((1, msv nw nb W B law 1) : Int × Int) := by unfold lw3; rw [eq0, eq1, eq2]
          rw [e9]
          exact ⟨rfl, _, arq2, j1, n1, f1, tl1, q1, r1, e1, rfl, hj1, hRq2.fl rfl rfl rfl, htl1, hqn1, Same.tr hsq2 (Same.us rfl Same.rf), haq2, rfl, h9q2, h10q2, hre1⟩
        · skip
          refine RQ.seg 8 (pc' := 27) (L' := [some (.ref 72), some (.int (iI 3)), some (.int (iI (msv nw nb W B law 2)))]) (st' := []) (g1 := (HW (usc (usc scq2 7209 2) 7210 (msv nw nb W B law 2)) arq2 tx (j1 + 118) rl ou (otl tl1 j1 n1 f1), q1)) rfl ?_
          have eq2 : lw1 ((1, msv nw nb W B law 1) : Int × Int) 2 (msv nw nb W B law 2) = ((2, msv nw nb W B law 2) : Int × Int) := by unfold lw1; first | exact if_pos (by dsimp only; omega) | exact if_neg (by dsimp only; omega)
          refine RQ.seg 6 (pc' := 67) (L' := [some (.ref 72), some (.int (iI 3)), some (.int (iI (msv nw nb W B law 2)))]) (st' := []) (g1 := (HW (usc (usc (usc scq2 7206 1) 7209 2) 7210 (msv nw nb W B law 2)) arq2 tx (j1 + 118) rl ou (otl tl1 j1 n1 f1), q1)) rfl ?_
          refine RQ.ret rfl rfl ?_
          have e9 : lw3 (msv nw nb W B law) = ((2, msv nw nb W B law 2) : Int × Int) := by unfold lw3; rw [eq0, eq1, eq2]
          rw [e9]
          exact ⟨rfl, _, arq2, j1, n1, f1, tl1, q1, r1, e1, rfl, hj1, hRq2.fl rfl rfl rfl, htl1, hqn1, Same.tr hsq2 (Same.us rfl (Same.us rfl (Same.us rfl Same.rf))), haq2, rfl, rfl, rfl, hre1⟩
  · skip
    refine RQ.ret rfl rfl ?_
    obtain ⟨h61, h79, h710⟩ := hKC (by omega)
    rcases hS with ⟨h1, j, f, rfl, hj, e0, hR⟩ | ⟨h0, _⟩
    · exact ⟨rfl, sc, ar, j, n, f, tl, q, r, e, congrArg (fun t => (HW sc ar tx (j + 118) rl ou t, q)) e0, hj, hR, ⟨Nat.le_refl _, fun _ _ _ => rfl, Or.inl rfl⟩, Or.inl ⟨rfl, rfl⟩, Same.rf, Same.rf, by omega, h79, h710, fun _ => ⟨rfl, rfl⟩⟩
    · exact absurd (h0.symm.trans h61) (by decide)
theorem x_lb_l {K : PK} {d : Nat} {tx : Nat} {rl : Nat → Option Nat} {ou : Nat → Int64} {tl : List PO} {q : Nat × Nat} {j n : Nat} {ar : Nat → Int → Int} {Q : Option Value → PG → Prop} {nw nb : Int} {W B : Int → Int → Int} (hF : FrOK nw nb W B) {r e f : Int → Int} (hj : j < tl.length) {law : Int → Int} (hlw : ∀ j, 0 ≤ j → j < 4 → ar 32 j = law j) (hL : LwOK law) (hW : BwK nw nb W B law ar) : ∀ (m k : Nat) (sc : Nat → Int) (hm : (k : Int) + m = t3 (mny nw nb W B)) (hX : FrX (sc 303) (sc 304) (ar 5) (ar 6) (ar 7) (ar 8) (ar 10) (ar 11) (ar 12) nw nb W B) (hR : RwK nw nb W B r e n f sc ar) (hbb : sc 7208 = bbn (rsv nw nb W B) (pyv nw nb W B law) (rsv nw nb W B (amx (rsv nw nb W B) (t3 (mny nw nb W B)).toNat)) k) (hk : ∀ sc', Same [7203, 7204, 7207, 7208] sc sc' → RwK nw nb W B r e n f sc' ar → sc' 7207 = 1 → sc' 7208 = bbn (rsv nw nb W B) (pyv nw nb W B law) (rsv nw nb W B (amx (rsv nw nb W B) (t3 (mny nw nb W B)).toNat)) (t3 (mny nw nb W B)).toNat → Q (some (.int (iI (bbn (rsv nw nb W B) (pyv nw nb W B law) (rsv nw nb W B (amx (rsv nw nb W B) (t3 (mny nw nb W B)).toNat)) (t3 (mny nw nb W B)).toNat)))) (HW sc' ar tx (j + 118) rl ou (otl tl j n f), q)), RQ K (d + 5) 5 false (some .int) cd65 39 [some (.ref 72), some (.int (iI (k : Int)))] [] (HW sc ar tx (j + 118) rl ou (otl tl j n f), q) Q
  | 0, k, sc, hm, hX, hR, hbb, hk => by
    have hn := hF.1
    have hm1 := hX.1
    have hm2 := hX.2.1
    obtain ⟨hk1, hT, hmo, hn5, ⟨hr, he⟩, hf⟩ := id hR
    have hB := mny_b (nw := nw) (nb := nb) (W := W) (B := B) hF.1.2.1
    have ht3 := t3_r hB
    have hsz : sc 6308 = t3 (mny nw nb W B) := hT.2.2
    have hLL := hL
    unfold LwOK at hLL
    have hv0 := rsv_r hF (k : Int)
    have hv1 := rsv_r hF (amx (rsv nw nb W B) (t3 (mny nw nb W B)).toNat)
    have hpv := pyv_r hF hL
    have hpk := hpv (k : Int)
    have hbr := bbn_r (sv := rsv nw nb W B) (top := rsv nw nb W B (amx (rsv nw nb W B) (t3 (mny nw nb W B)).toNat)) hpv k
    refine RQ.seg 4 (pc' := 47) (L' := [some (.ref 72), some (.int (iI (k : Int)))]) (st' := [.int (iI (sc 6308)), .int (iI (k : Int))]) (g1 := (HW sc ar tx (j + 118) rl ou (otl tl j n f), q)) rfl ?_
    refine RQ.to (L' := [some (.ref 72), some (.int (iI (k : Int)))]) (st' := [.int (iI (t3 (mny nw nb W B))), .int (iI (k : Int))]) rfl (by rw [show sc 6308 = t3 (mny nw nb W B) from hsz]) ?_
    refine RQ.if2 (a := (k : Int)) (b := (t3 (mny nw nb W B))) rfl rfl rfl rfl (by omega) (by omega) (fun _ => ?_) (fun (q : ¬ t3 (mny nw nb W B) ≤ (k : Int)) => absurd (show t3 (mny nw nb W B) ≤ (k : Int) from by omega) q)
    refine RQ.seg 5 (pc' := 127) (L' := [some (.ref 72), some (.int (iI (k : Int)))]) (st' := [.int (iI (sc 7208))]) (g1 := (HW (usc sc 7207 1) ar tx (j + 118) rl ou (otl tl j n f), q)) rfl ?_
    refine RQ.to (L' := [some (.ref 72), some (.int (iI (k : Int)))]) (st' := [.int (iI (bbn (rsv nw nb W B) (pyv nw nb W B law) (rsv nw nb W B (amx (rsv nw nb W B) (t3 (mny nw nb W B)).toNat)) k))]) rfl (by rw [show sc 7208 = bbn (rsv nw nb W B) (pyv nw nb W B law) (rsv nw nb W B (amx (rsv nw nb W B) (t3 (mny nw nb W B)).toNat)) k from hbb]) ?_
    refine RQ.ret rfl rfl ?_
    rw [show (t3 (mny nw nb W B)).toNat = k by omega] at hk ⊢
    rw [show (t3 (mny nw nb W B)).toNat = k by omega] at hbb
    exact hk (usc sc 7207 1) (Same.us rfl Same.rf) (hR.fl rfl rfl rfl) rfl hbb
  | m + 1, k, sc, hm, hX, hR, hbb, hk => by
    have hn := hF.1
    have hm1 := hX.1
    have hm2 := hX.2.1
    obtain ⟨hk1, hT, hmo, hn5, ⟨hr, he⟩, hf⟩ := id hR
    have hB := mny_b (nw := nw) (nb := nb) (W := W) (B := B) hF.1.2.1
    have ht3 := t3_r hB
    have hsz : sc 6308 = t3 (mny nw nb W B) := hT.2.2
    have hLL := hL
    unfold LwOK at hLL
    have hv0 := rsv_r hF (k : Int)
    have hv1 := rsv_r hF (amx (rsv nw nb W B) (t3 (mny nw nb W B)).toNat)
    have hpv := pyv_r hF hL
    have hpk := hpv (k : Int)
    have hbr := bbn_r (sv := rsv nw nb W B) (top := rsv nw nb W B (amx (rsv nw nb W B) (t3 (mny nw nb W B)).toNat)) hpv k
    refine RQ.seg 4 (pc' := 47) (L' := [some (.ref 72), some (.int (iI (k : Int)))]) (st' := [.int (iI (sc 6308)), .int (iI (k : Int))]) (g1 := (HW sc ar tx (j + 118) rl ou (otl tl j n f), q)) rfl ?_
    refine RQ.to (L' := [some (.ref 72), some (.int (iI (k : Int)))]) (st' := [.int (iI (t3 (mny nw nb W B))), .int (iI (k : Int))]) rfl (by rw [show sc 6308 = t3 (mny nw nb W B) from hsz]) ?_
    refine RQ.if2 (a := (k : Int)) (b := (t3 (mny nw nb W B))) rfl rfl rfl rfl (by omega) (by omega) (fun (q : t3 (mny nw nb W B) ≤ (k : Int)) => absurd q (show ¬ t3 (mny nw nb W B) ≤ (k : Int) from by omega)) (fun _ => ?_)
    refine RQ.seg 3 (pc' := 55) (L' := [some (.ref 72), some (.int (iI (k : Int)))]) (st' := [.int (iI (k : Int)), .ref 63]) (g1 := (HW sc ar tx (j + 118) rl ou (otl tl j n f), q)) rfl ?_
    refine RQ.call rfl rfl (CallR.up (d := 2) (x_savedAtI (d := 0) (i := (k : Int)) hF hX hj hR (by omega)) (by omega)) ?_
    refine RQ.seg 2 (pc' := 62) (L' := [some (.ref 72), some (.int (iI (k : Int)))]) (st' := [.ref 63, .int (iI (rsv nw nb W B (k : Int)))]) (g1 := (HW sc ar tx (j + 118) rl ou (otl tl j n f), q)) rfl ?_
    refine RQ.call rfl rfl (CallR.up (d := 3) (x_mostSaved (d := 0) hF hX hj hR) (by omega)) ?_
    refine RQ.if2 (a := (rsv nw nb W B (k : Int))) (b := (rsv nw nb W B (amx (rsv nw nb W B) (t3 (mny nw nb W B)).toNat))) rfl rfl rfl rfl (by omega) (by omega) (fun (h2 : rsv nw nb W B (k : Int) ≠ rsv nw nb W B (amx (rsv nw nb W B) (t3 (mny nw nb W B)).toNat)) => ?_) (fun (h2 : ¬ rsv nw nb W B (k : Int) ≠ rsv nw nb W B (amx (rsv nw nb W B) (t3 (mny nw nb W B)).toNat)) => ?_)
    · skip
      refine RQ.seg 2 (pc' := 39) (L' := [some (.ref 72), some (.int ((iI (k : Int)) + (iI 1)))]) (st' := []) (g1 := (HW sc ar tx (j + 118) rl ou (otl tl j n f), q)) rfl ?_
      refine RQ.to (L' := [some (.ref 72), some (.int (iI ((k : Int) + 1)))]) (st' := []) (by simp only [iI_add, iI_sub, iI_mul, iI_neg]) rfl ?_
      have e9 : bbn (rsv nw nb W B) (pyv nw nb W B law) (rsv nw nb W B (amx (rsv nw nb W B) (t3 (mny nw nb W B)).toNat)) k = bbn (rsv nw nb W B) (pyv nw nb W B law) (rsv nw nb W B (amx (rsv nw nb W B) (t3 (mny nw nb W B)).toNat)) (k + 1) := by rw [bbn]; first | (rw [if_pos (by omega)]) | rw [if_neg (by omega)]
      exact x_lb_l hF hj hlw hL hW m (k + 1) (sc) (by omega) hX (hR.fl rfl rfl rfl) (hbb.trans e9) (fun sc' a1 a2 a3 a4 => hk sc' (Same.tr (Same.rf) a1) a2 a3 a4)
    · skip
      refine RQ.seg 6 (pc' := 78) (L' := [some (.ref 72), some (.int (iI (k : Int)))]) (st' := [.int (iI 3), .ref 32, .int (iI (k : Int)), .ref 72]) (g1 := (HW sc ar tx (j + 118) rl ou (otl tl j n f), q)) rfl ?_
      refine RQ.ialdv (z := 3) (v := (law 3)) rfl rfl rfl (by omega) (by decide) (hlw 3 (by omega) (by omega)) ?_
      refine RQ.callQ rfl rfl ((x_boundPay (d := d) (i := (k : Int)) (q0 := law 3) hF hX hj hR hlw hL (by omega) (show BwK nw nb W B (lwq law (law 3)) ar by rw [lwq_self]; exact hW) (by omega)).up (by omega)) (fun rv g1 hc => ?_)
      rw [lwq_self] at hc
      obtain ⟨l, u, rfl, ⟨rfl, hp, hle⟩ | ⟨rfl, hp⟩⟩ := hc
      · skip
        have hlu := pyn_r hF hL nb.toNat (by omega) l u hp
        have hpy := pyv_s hp hle
        refine RQ.seg 3 (pc' := 89) (L' := [some (.ref 72), some (.int (iI (k : Int)))]) (st' := [.int (iI (sc 7208))]) (g1 := (HW (usc (usc sc 7203 l) 7204 u) ar tx (j + 118) rl ou (otl tl j n f), q)) rfl ?_
        refine RQ.to (L' := [some (.ref 72), some (.int (iI (k : Int)))]) (st' := [.int (iI (bbn (rsv nw nb W B) (pyv nw nb W B law) (rsv nw nb W B (amx (rsv nw nb W B) (t3 (mny nw nb W B)).toNat)) k))]) rfl (by rw [show sc 7208 = bbn (rsv nw nb W B) (pyv nw nb W B law) (rsv nw nb W B (amx (rsv nw nb W B) (t3 (mny nw nb W B)).toNat)) k from hbb]) ?_
        refine RQ.seg 1 (pc' := 90) (L' := [some (.ref 72), some (.int (iI (k : Int)))]) (st' := [.int (iI (-1)), .int (iI (bbn (rsv nw nb W B) (pyv nw nb W B law) (rsv nw nb W B (amx (rsv nw nb W B) (t3 (mny nw nb W B)).toNat)) k))]) (g1 := (HW (usc (usc sc 7203 l) 7204 u) ar tx (j + 118) rl ou (otl tl j n f), q)) rfl ?_
        refine RQ.if2 (a := (bbn (rsv nw nb W B) (pyv nw nb W B law) (rsv nw nb W B (amx (rsv nw nb W B) (t3 (mny nw nb W B)).toNat)) k)) (b := (-1)) rfl rfl rfl rfl (by omega) (by omega) (fun (h3 : bbn (rsv nw nb W B) (pyv nw nb W B law) (rsv nw nb W B (amx (rsv nw nb W B) (t3 (mny nw nb W B)).toNat)) k = (-1)) => ?_) (fun (h3 : ¬ bbn (rsv nw nb W B) (pyv nw nb W B law) (rsv nw nb W B (amx (rsv nw nb W B) (t3 (mny nw nb W B)).toNat)) k = (-1)) => ?_)
        · skip
          refine RQ.seg 6 (pc' := 39) (L' := [some (.ref 72), some (.int ((iI (k : Int)) + (iI 1)))]) (st' := []) (g1 := (HW (usc (usc (usc sc 7203 l) 7204 u) 7208 l) ar tx (j + 118) rl ou (otl tl j n f), q)) rfl ?_
          refine RQ.to (L' := [some (.ref 72), some (.int (iI ((k : Int) + 1)))]) (st' := []) (by simp only [iI_add, iI_sub, iI_mul, iI_neg]) rfl ?_
          have e9 : l = bbn (rsv nw nb W B) (pyv nw nb W B law) (rsv nw nb W B (amx (rsv nw nb W B) (t3 (mny nw nb W B)).toNat)) (k + 1) := by rw [bbn]; first | (rw [if_pos (by omega)]; exact hpy.symm) | rw [if_neg (by omega)]
          exact x_lb_l hF hj hlw hL hW m (k + 1) (usc (usc (usc sc 7203 l) 7204 u) 7208 l) (by omega) hX (hR.fl rfl rfl rfl) (e9) (fun sc' a1 a2 a3 a4 => hk sc' (Same.tr (Same.us rfl (Same.us rfl (Same.us rfl Same.rf))) a1) a2 a3 a4)
        · skip
          refine RQ.seg 4 (pc' := 101) (L' := [some (.ref 72), some (.int (iI (k : Int)))]) (st' := [.int (iI (sc 7208)), .int (iI l)]) (g1 := (HW (usc (usc sc 7203 l) 7204 u) ar tx (j + 118) rl ou (otl tl j n f), q)) rfl ?_
          refine RQ.to (L' := [some (.ref 72), some (.int (iI (k : Int)))]) (st' := [.int (iI (bbn (rsv nw nb W B) (pyv nw nb W B law) (rsv nw nb W B (amx (rsv nw nb W B) (t3 (mny nw nb W B)).toNat)) k)), .int (iI l)]) rfl (by rw [show sc 7208 = bbn (rsv nw nb W B) (pyv nw nb W B law) (rsv nw nb W B (amx (rsv nw nb W B) (t3 (mny nw nb W B)).toNat)) k from hbb]) ?_
          refine RQ.if2 (a := l) (b := (bbn (rsv nw nb W B) (pyv nw nb W B law) (rsv nw nb W B (amx (rsv nw nb W B) (t3 (mny nw nb W B)).toNat)) k)) rfl rfl rfl rfl (by omega) (by omega) (fun (h4 : bbn (rsv nw nb W B) (pyv nw nb W B law) (rsv nw nb W B (amx (rsv nw nb W B) (t3 (mny nw nb W B)).toNat)) k ≤ l) => ?_) (fun (h4 : ¬ bbn (rsv nw nb W B) (pyv nw nb W B law) (rsv nw nb W B (amx (rsv nw nb W B) (t3 (mny nw nb W B)).toNat)) k ≤ l) => ?_)
          · skip
            refine RQ.seg 2 (pc' := 39) (L' := [some (.ref 72), some (.int ((iI (k : Int)) + (iI 1)))]) (st' := []) (g1 := (HW (usc (usc sc 7203 l) 7204 u) ar tx (j + 118) rl ou (otl tl j n f), q)) rfl ?_
            refine RQ.to (L' := [some (.ref 72), some (.int (iI ((k : Int) + 1)))]) (st' := []) (by simp only [iI_add, iI_sub, iI_mul, iI_neg]) rfl ?_
            have e9 : bbn (rsv nw nb W B) (pyv nw nb W B law) (rsv nw nb W B (amx (rsv nw nb W B) (t3 (mny nw nb W B)).toNat)) k = bbn (rsv nw nb W B) (pyv nw nb W B law) (rsv nw nb W B (amx (rsv nw nb W B) (t3 (mny nw nb W B)).toNat)) (k + 1) := by rw [bbn]; first | (rw [if_pos (by omega)]) | rw [if_neg (by omega)]
            exact x_lb_l hF hj hlw hL hW m (k + 1) (usc (usc sc 7203 l) 7204 u) (by omega) hX (hR.fl rfl rfl rfl) (hbb.trans e9) (fun sc' a1 a2 a3 a4 => hk sc' (Same.tr (Same.us rfl (Same.us rfl Same.rf)) a1) a2 a3 a4)
          · skip
            refine RQ.seg 6 (pc' := 39) (L' := [some (.ref 72), some (.int ((iI (k : Int)) + (iI 1)))]) (st' := []) (g1 := (HW (usc (usc (usc sc 7203 l) 7204 u) 7208 l) ar tx (j + 118) rl ou (otl tl j n f), q)) rfl ?_
            refine RQ.to (L' := [some (.ref 72), some (.int (iI ((k : Int) + 1)))]) (st' := []) (by simp only [iI_add, iI_sub, iI_mul, iI_neg]) rfl ?_
            have e9 : l = bbn (rsv nw nb W B) (pyv nw nb W B law) (rsv nw nb W B (amx (rsv nw nb W B) (t3 (mny nw nb W B)).toNat)) (k + 1) := by rw [bbn]; first | (rw [if_pos (by omega)]; exact hpy.symm) | rw [if_neg (by omega)]
            exact x_lb_l hF hj hlw hL hW m (k + 1) (usc (usc (usc sc 7203 l) 7204 u) 7208 l) (by omega) hX (hR.fl rfl rfl rfl) (e9) (fun sc' a1 a2 a3 a4 => hk sc' (Same.tr (Same.us rfl (Same.us rfl (Same.us rfl Same.rf))) a1) a2 a3 a4)
      · skip
        have hpy := pyv_n hp
        refine RQ.seg 3 (pc' := 39) (L' := [some (.ref 72), some (.int ((iI (k : Int)) + (iI 1)))]) (st' := []) (g1 := (HW (usc (usc sc 7203 l) 7204 u) ar tx (j + 118) rl ou (otl tl j n f), q)) rfl ?_
        refine RQ.to (L' := [some (.ref 72), some (.int (iI ((k : Int) + 1)))]) (st' := []) (by simp only [iI_add, iI_sub, iI_mul, iI_neg]) rfl ?_
        have e9 : bbn (rsv nw nb W B) (pyv nw nb W B law) (rsv nw nb W B (amx (rsv nw nb W B) (t3 (mny nw nb W B)).toNat)) k = bbn (rsv nw nb W B) (pyv nw nb W B law) (rsv nw nb W B (amx (rsv nw nb W B) (t3 (mny nw nb W B)).toNat)) (k + 1) := by rw [bbn]; first | (rw [if_pos (by omega)]) | rw [if_neg (by omega)]
        exact x_lb_l hF hj hlw hL hW m (k + 1) (usc (usc sc 7203 l) 7204 u) (by omega) hX (hR.fl rfl rfl rfl) (hbb.trans e9) (fun sc' a1 a2 a3 a4 => hk sc' (Same.tr (Same.us rfl (Same.us rfl Same.rf)) a1) a2 a3 a4)
theorem x_leastBribe {K : PK} {d : Nat} {sc : Nat → Int} {ar : Nat → Int → Int} {tx oc : Nat} {rl : Nat → Option Nat} {ou : Nat → Int64} {tl : List PO} {q : Nat × Nat} {nw nb : Int} {W B : Int → Int → Int} (hF : FrOK nw nb W B) (hX : FrX (sc 303) (sc 304) (ar 5) (ar 6) (ar 7) (ar 8) (ar 10) (ar 11) (ar 12) nw nb W B) {law : Int → Int} (hlw : ∀ j, 0 ≤ j → j < 4 → ar 32 j = law j) (hL : LwOK law) (hnb : 0 < nb) {r e : Int → Int} {n : Nat} (hS : RwS nw nb W B r e n oc tl sc ar) (hfl : 0 ≤ sc 7207 ∧ sc 7207 ≤ 1) (hKB : sc 7207 = 1 → sc 6306 = 1 ∧ sc 7208 = bbn (rsv nw nb W B) (pyv nw nb W B law) (rsv nw nb W B (amx (rsv nw nb W B) (t3 (mny nw nb W B)).toNat)) (t3 (mny nw nb W B)).toNat) : CQ K (d + 6) 65 [.ref 72] (HW sc ar tx oc rl ou tl, q) (fun rv g' => rv = some (.int (iI (bbn (rsv nw nb W B) (pyv nw nb W B law) (rsv nw nb W B (amx (rsv nw nb W B) (t3 (mny nw nb W B)).toNat)) (t3 (mny nw nb W B)).toNat))) ∧ RwP nw nb W B oc n tl q tx rl ou g' (fun sc' ar' r' e' => Same brF sc sc' ∧ Same rnA ar ar' ∧ sc' 7207 = 1 ∧ sc' 7208 = bbn (rsv nw nb W B) (pyv nw nb W B law) (rsv nw nb W B (amx (rsv nw nb W B) (t3 (mny nw nb W B)).toNat)) (t3 (mny nw nb W B)).toNat ∧ (sc 6306 = 1 → r' = r ∧ e' = e))) := by
  have hn := hF.1
  have hm1 := hX.1
  have hm2 := hX.2.1
  have hB := mny_b (nw := nw) (nb := nb) (W := W) (B := B) hF.1.2.1
  have ht3 := t3_r hB
  have hLL := hL
  unfold LwOK at hLL
  refine CQ.of (own := 5) (n := 2) (ini := false) (rt := (some .int)) (cd := cd65) (by decide +kernel) rfl (by decide +kernel) rfl (Nat.le_of_ble_eq_true rfl) ?_
  refine RQ.seg 2 (pc' := 4) (L' := [some (.ref 72), none]) (st' := [.int (iI (sc 7207))]) (g1 := (HW sc ar tx oc rl ou tl, q)) rfl ?_
  refine RQ.if1 (a := (sc 7207)) rfl rfl rfl (by omega) (fun (h1 : sc 7207 = 0) => ?_) (fun (h1 : ¬ sc 7207 = 0) => ?_)
  · skip
    refine RQ.seg 2 (pc' := 16) (L' := [some (.ref 72), none]) (st' := [.ref 63]) (g1 := (HW sc ar tx oc rl ou tl, q)) rfl ?_
    refine RQ.callQ rfl rfl ((x_findAll (d := 0) (sc := sc) (ar := ar) hF hX hnb hS).up (by omega)) (fun rv g1 hc => ?_)
    obtain ⟨rfl, sc1, ar1, j1, n1, f1, tl1, q1, r1, e1, rfl, hj1, hR1, htl1, hqn1, hs1, ha1, hre1⟩ := hc
    have hX1 := hX.sr hs1 ha1
    have hlw1 : ∀ j, 0 ≤ j → j < 4 → ar1 32 j = law j := fun j h0 h1 => (congrFun (ha1 32 rfl) j).trans (hlw j h0 h1)
    refine RQ.seg 5 (pc' := 28) (L' := [some (.ref 72), none]) (st' := [.int (iI 3), .ref 32, .ref 72]) (g1 := (HW sc1 ar1 tx (j1 + 118) rl ou (otl tl1 j1 n1 f1), q1)) rfl ?_
    refine RQ.ialdv (z := 3) (v := (law 3)) rfl rfl rfl (by omega) (by decide) (hlw1 3 (by omega) (by omega)) ?_
    refine RQ.callQ rfl rfl ((x_findBest (d := 0) (q0 := law 3) hF hX1 hj1 hR1 hlw1 hL (by omega)).up (by omega)) (fun rv g1 hc => ?_)
    obtain ⟨rfl, ar2, rfl, ha2, hW2⟩ := hc
    rw [lwq_self] at hW2
    have hR2 : RwK nw nb W B r1 e1 n1 f1 sc1 ar2 := hR1.ar (ha2 65 rfl) (ha2 66 rfl) (ha2 67 rfl) (ha2 68 rfl) (ha2 69 rfl)
    have hX2 : FrX (sc1 303) (sc1 304) (ar2 5) (ar2 6) (ar2 7) (ar2 8) (ar2 10) (ar2 11) (ar2 12) nw nb W B := by rw [ha2 5 rfl, ha2 6 rfl, ha2 7 rfl, ha2 8 rfl, ha2 10 rfl, ha2 11 rfl, ha2 12 rfl]; exact hX1
    have hlw2 : ∀ j, 0 ≤ j → j < 4 → ar2 32 j = law j := fun j h0 h1 => (congrFun (ha2 32 rfl) j).trans (hlw1 j h0 h1)
    have ha3 : Same rnA ar ar2 := Same.tr ha1 (ha2.w rfl)
    refine RQ.seg 5 (pc' := 39) (L' := [some (.ref 72), some (.int (iI 0))]) (st' := []) (g1 := (HW (usc sc1 7208 (-1)) ar2 tx (j1 + 118) rl ou (otl tl1 j1 n1 f1), q1)) rfl ?_
    refine x_lb_l hF hj1 hlw2 hL hW2 (t3 (mny nw nb W B)).toNat 0 (usc sc1 7208 (-1)) (by omega) hX2 (hR2.fl rfl rfl rfl) rfl (fun sc' a1 a2 a3 a4 => ?_)
    exact ⟨rfl, sc', ar2, j1, n1, f1, tl1, q1, r1, e1, rfl, hj1, a2, htl1, hqn1, Same.tr (hs1.w rfl) (Same.tr (Same.us rfl Same.rf) (a1.w rfl)), ha3, a3, a4, hre1⟩
  · skip
    refine RQ.seg 2 (pc' := 11) (L' := [some (.ref 72), none]) (st' := [.int (iI (sc 7208))]) (g1 := (HW sc ar tx oc rl ou tl, q)) rfl ?_
    refine RQ.ret rfl rfl ?_
    obtain ⟨h61, h78⟩ := hKB (by omega)
    rcases hS with ⟨h1, j, f, rfl, hj, e0, hR⟩ | ⟨h0, _⟩
    · exact ⟨by rw [h78], sc, ar, j, n, f, tl, q, r, e, congrArg (fun t => (HW sc ar tx (j + 118) rl ou t, q)) e0, hj, hR, ⟨Nat.le_refl _, fun _ _ _ => rfl, Or.inl rfl⟩, Or.inl ⟨rfl, rfl⟩, Same.rf, Same.rf, by omega, h78, fun _ => ⟨rfl, rfl⟩⟩
    · exact absurd (h0.symm.trans h61) (by decide)
theorem x_rests {K : PK} {d : Nat} {sc : Nat → Int} {ar : Nat → Int → Int} {tx oc : Nat} {rl : Nat → Option Nat} {ou : Nat → Int64} {tl : List PO} {q : Nat × Nat} {i : Int} {nw nb : Int} {W B : Int → Int → Int} (hF : FrOK nw nb W B) (hX : FrX (sc 303) (sc 304) (ar 5) (ar 6) (ar 7) (ar 8) (ar 10) (ar 11) (ar 12) nw nb W B) {law : Int → Int} (hlw : ∀ j, 0 ≤ j → j < 4 → ar 32 j = law j) (hL : LwOK law) (hnb : 0 < nb) {r e : Int → Int} {n : Nat} (hS : RwS nw nb W B r e n oc tl sc ar) (hfl : 0 ≤ sc 7205 ∧ sc 7205 ≤ 1) (hKR : sc 7205 = 1 → sc 6306 = 1 ∧ ∀ i, 0 ≤ i → i < t3 (mny nw nb W B) → r i = rsf nw nb W B law i) (ri : -2147483648 ≤ i ∧ i < 2147483648) : CQ K (d + 7) 119 [.ref 0, .int (iI i)] (HW sc ar tx oc rl ou tl, q) (fun rv g' => rv = some (.int (iI (sRests nw nb W B law i))) ∧ RwP nw nb W B oc n tl q tx rl ou g' (fun sc' ar' r' e' => Same rsF sc sc' ∧ Same rnA ar ar' ∧ sc' 7205 = 1 ∧ (∀ i, 0 ≤ i → i < t3 (mny nw nb W B) → r' i = rsf nw nb W B law i) ∧ (sc 6306 = 1 → e' = e))) := by
  have hn := hF.1
  have hm1 := hX.1
  have hm2 := hX.2.1
  have hB := mny_b (nw := nw) (nb := nb) (W := W) (B := B) hF.1.2.1
  have ht3 := t3_r hB
  have hLL := hL
  unfold LwOK at hLL
  refine CQ.of (own := 10) (n := 2) (ini := false) (rt := (some .int)) (cd := cd119) (by decide +kernel) rfl (by decide +kernel) rfl (Nat.le_of_ble_eq_true rfl) ?_
  refine RQ.seg 2 (pc' := 4) (L' := [some (.ref 0), some (.int (iI i))]) (st' := [.ref 3]) (g1 := (HW sc ar tx oc rl ou tl, q)) rfl ?_
  refine RQ.call rfl rfl (x_standsN_t hX hF hnb) ?_
  refine RQ.seg 3 (pc' := 16) (L' := [some (.ref 0), some (.int (iI i))]) (st' := [.ref 72]) (g1 := (HW sc ar tx oc rl ou tl, q)) rfl ?_
  refine RQ.callQ rfl rfl (x_rfind hF hX hlw hL hnb hS hfl hKR) (fun rv g1 hc => ?_)
  obtain ⟨rfl, sc1, ar1, j1, n1, f1, tl1, q1, r1, e1, rfl, hj1, hR1, htl1, hqn1, hs1, ha1, h71, hmk1, hee1⟩ := hc
  have hX1 : FrX (sc1 303) (sc1 304) (ar1 5) (ar1 6) (ar1 7) (ar1 8) (ar1 10) (ar1 11) (ar1 12) nw nb W B := by rw [hs1 303 rfl, hs1 304 rfl, ha1 5 rfl, ha1 6 rfl, ha1 7 rfl, ha1 8 rfl, ha1 10 rfl, ha1 11 rfl, ha1 12 rfl]; exact hX
  refine RQ.seg 4 (pc' := 26) (L' := [some (.ref 0), some (.int (iI i))]) (st' := [.int (iI i), .int (iI 16777216), .ref 63]) (g1 := (HW sc1 ar1 tx (j1 + 118) rl ou (otl tl1 j1 n1 f1), q1)) rfl ?_
  refine RQ.call rfl rfl (CallR.up (d := 3) (x_markedRowR (d := 0) (i := i) hF hX1 hj1 hR1 ri) (by omega)) ?_
  refine RQ.ret rfl rfl ?_
  refine ⟨?_, sc1, ar1, j1, n1, f1, tl1, q1, r1, e1, rfl, hj1, hR1, htl1, hqn1, hs1, ha1, h71, hmk1, hee1⟩
  congr 3; unfold sRests; rw [if_pos hnb]; exact pik_c hmk1 (fun _ _ _ => rfl) (t3 (mny nw nb W B)).toNat 0 0 (by omega) (by omega)
theorem x_loss {K : PK} {d : Nat} {sc : Nat → Int} {ar : Nat → Int → Int} {tx oc : Nat} {rl : Nat → Option Nat} {ou : Nat → Int64} {tl : List PO} {q : Nat × Nat} {nw nb : Int} {W B : Int → Int → Int} (hF : FrOK nw nb W B) (hX : FrX (sc 303) (sc 304) (ar 5) (ar 6) (ar 7) (ar 8) (ar 10) (ar 11) (ar 12) nw nb W B) {law : Int → Int} (hlw : ∀ j, 0 ≤ j → j < 4 → ar 32 j = law j) (hL : LwOK law) (hnb : 0 < nb) {r e : Int → Int} {n : Nat} (hS : RwS nw nb W B r e n oc tl sc ar) (hfl : 0 ≤ sc 7205 ∧ sc 7205 ≤ 1) (hKR : sc 7205 = 1 → sc 6306 = 1 ∧ ∀ i, 0 ≤ i → i < t3 (mny nw nb W B) → r i = rsf nw nb W B law i) : CQ K (d + 8) 121 [.ref 0] (HW sc ar tx oc rl ou tl, q) (fun rv g' => rv = some (.int (iI (sLoss nw nb W B law))) ∧ RwP nw nb W B oc n tl q tx rl ou g' (fun sc' ar' r' e' => Same rsF sc sc' ∧ Same rnA ar ar' ∧ sc' 7205 = 1 ∧ (∀ i, 0 ≤ i → i < t3 (mny nw nb W B) → r' i = rsf nw nb W B law i) ∧ (sc 6306 = 1 → e' = e))) := by
  have hn := hF.1
  have hm1 := hX.1
  have hm2 := hX.2.1
  have hB := mny_b (nw := nw) (nb := nb) (W := W) (B := B) hF.1.2.1
  have ht3 := t3_r hB
  have hLL := hL
  unfold LwOK at hLL
  refine CQ.of (own := 10) (n := 2) (ini := false) (rt := (some .int)) (cd := cd121) (by decide +kernel) rfl (by decide +kernel) rfl (Nat.le_of_ble_eq_true rfl) ?_
  refine RQ.seg 2 (pc' := 4) (L' := [some (.ref 0), none]) (st' := [.ref 3]) (g1 := (HW sc ar tx oc rl ou tl, q)) rfl ?_
  refine RQ.call rfl rfl (x_standsN_t hX hF hnb) ?_
  refine RQ.seg 3 (pc' := 17) (L' := [some (.ref 0), none]) (st' := [.ref 72]) (g1 := (HW sc ar tx oc rl ou tl, q)) rfl ?_
  refine RQ.callQ rfl rfl (x_worst hF hX hlw hL hnb hS hfl hKR) (fun rv g1 hc => ?_)
  obtain ⟨rfl, sc1, ar1, j1, n1, f1, tl1, q1, r1, e1, rfl, hj1, hR1, htl1, hqn1, hs1, ha1, h71, hmk1, hee1⟩ := hc
  have hX1 : FrX (sc1 303) (sc1 304) (ar1 5) (ar1 6) (ar1 7) (ar1 8) (ar1 10) (ar1 11) (ar1 12) nw nb W B := by rw [hs1 303 rfl, hs1 304 rfl, ha1 5 rfl, ha1 6 rfl, ha1 7 rfl, ha1 8 rfl, ha1 10 rfl, ha1 11 rfl, ha1 12 rfl]; exact hX
  have hls := lsr_r (r := rsf nw nb W B law) (rsv_r hF) (t3 (mny nw nb W B)).toNat
  have hls2 : -1 ≤ lsv nw nb W B law ∧ lsv nw nb W B law ≤ 36 := hls
  refine RQ.seg 3 (pc' := 23) (L' := [some (.ref 0), some (.int (iI (lsv nw nb W B law)))]) (st' := [.int (iI (-1)), .int (iI (lsv nw nb W B law))]) (g1 := (HW sc1 ar1 tx (j1 + 118) rl ou (otl tl1 j1 n1 f1), q1)) rfl ?_
  refine RQ.if2 (a := (lsv nw nb W B law)) (b := (-1)) rfl rfl rfl rfl (by omega) (by omega) (fun (h1 : lsv nw nb W B law ≠ (-1)) => ?_) (fun (h1 : ¬ lsv nw nb W B law ≠ (-1)) => ?_)
  · skip
    refine RQ.seg 2 (pc' := 35) (L' := [some (.ref 0), some (.int (iI (lsv nw nb W B law)))]) (st' := [.ref 63]) (g1 := (HW sc1 ar1 tx (j1 + 118) rl ou (otl tl1 j1 n1 f1), q1)) rfl ?_
    refine RQ.call rfl rfl (CallR.up (d := 3) (x_mostSaved (d := 0) hF hX1 hj1 hR1) (by omega)) ?_
    refine RQ.seg 2 (pc' := 40) (L' := [some (.ref 0), some (.int (iI (lsv nw nb W B law)))]) (st' := [.int ((iI (rsv nw nb W B (amx (rsv nw nb W B) (t3 (mny nw nb W B)).toNat))) - (iI (lsv nw nb W B law)))]) (g1 := (HW sc1 ar1 tx (j1 + 118) rl ou (otl tl1 j1 n1 f1), q1)) rfl ?_
    refine RQ.to (L' := [some (.ref 0), some (.int (iI (lsv nw nb W B law)))]) (st' := [.int (iI (rsv nw nb W B (amx (rsv nw nb W B) (t3 (mny nw nb W B)).toNat) - (lsv nw nb W B law)))]) rfl (by simp only [iI_add, iI_sub, iI_mul, iI_neg]) ?_
    refine RQ.ret rfl rfl ?_
    refine ⟨?_, sc1, ar1, j1, n1, f1, tl1, q1, r1, e1, rfl, hj1, hR1, htl1, hqn1, hs1, ha1, h71, hmk1, hee1⟩
    congr 3; unfold sLoss; rw [if_pos hnb]; first | rw [if_pos (by omega)] | rw [if_neg (by omega)]
  · skip
    refine RQ.seg 2 (pc' := 40) (L' := [some (.ref 0), some (.int (iI (lsv nw nb W B law)))]) (st' := [.int (iI (-1000000))]) (g1 := (HW sc1 ar1 tx (j1 + 118) rl ou (otl tl1 j1 n1 f1), q1)) rfl ?_
    refine RQ.ret rfl rfl ?_
    refine ⟨?_, sc1, ar1, j1, n1, f1, tl1, q1, r1, e1, rfl, hj1, hR1, htl1, hqn1, hs1, ha1, h71, hmk1, hee1⟩
    congr 3; unfold sLoss; rw [if_pos hnb]; first | rw [if_pos (by omega)] | rw [if_neg (by omega)]
theorem x_most_t {K : PK} {d : Nat} {sc : Nat → Int} {ar : Nat → Int → Int} {tx oc : Nat} {rl : Nat → Option Nat} {ou : Nat → Int64} {tl : List PO} {q : Nat × Nat} {j0 : Int} {nw nb : Int} {W B : Int → Int → Int} (hF : FrOK nw nb W B) (hX : FrX (sc 303) (sc 304) (ar 5) (ar 6) (ar 7) (ar 8) (ar 10) (ar 11) (ar 12) nw nb W B) (hnb : 0 < nb) {r e : Int → Int} {n : Nat} (hS : RwS nw nb W B r e n oc tl sc ar) (hj0 : 0 ≤ j0 ∧ j0 ≤ 1) : CQ K (d + 5) 120 [.ref 0, .int (iI j0)] (HW sc ar tx oc rl ou tl, q) (fun rv g' => rv = some (.int (iI (sMost nw nb W B j0))) ∧ RwP nw nb W B oc n tl q tx rl ou g' (fun sc' ar' r' e' => Same rnF sc sc' ∧ Same rnA ar ar' ∧ (sc 6306 = 1 → r' = r ∧ e' = e))) := by
  have hn := hF.1
  have hm1 := hX.1
  have hm2 := hX.2.1
  have hB := mny_b (nw := nw) (nb := nb) (W := W) (B := B) hF.1.2.1
  have ht3 := t3_r hB
  refine CQ.of (own := 10) (n := 2) (ini := false) (rt := (some .int)) (cd := cd120) (by decide +kernel) rfl (by decide +kernel) rfl (Nat.le_of_ble_eq_true rfl) ?_
  refine RQ.seg 2 (pc' := 4) (L' := [some (.ref 0), some (.int (iI j0))]) (st' := [.ref 3]) (g1 := (HW sc ar tx oc rl ou tl, q)) rfl ?_
  refine RQ.call rfl rfl (x_standsN_t hX hF hnb) ?_
  refine RQ.seg 2 (pc' := 11) (L' := [some (.ref 0), some (.int (iI j0))]) (st' := [.int (iI j0)]) (g1 := (HW sc ar tx oc rl ou tl, q)) rfl ?_
  refine RQ.if1 (a := j0) rfl rfl rfl (by omega) (fun (q : j0 < 0) => absurd q (show ¬ j0 < 0 from by omega)) (fun _ => ?_)
  refine RQ.seg 2 (pc' := 16) (L' := [some (.ref 0), some (.int (iI j0))]) (st' := [.int (iI 1), .int (iI j0)]) (g1 := (HW sc ar tx oc rl ou tl, q)) rfl ?_
  refine RQ.if2 (a := j0) (b := 1) rfl rfl rfl rfl (by omega) (by omega) (fun _ => ?_) (fun (q : ¬ j0 ≤ 1) => absurd (show j0 ≤ 1 from by omega) q)
  refine RQ.seg 2 (pc' := 25) (L' := [some (.ref 0), some (.int (iI j0))]) (st' := [.ref 63]) (g1 := (HW sc ar tx oc rl ou tl, q)) rfl ?_
  refine RQ.callQ rfl rfl ((x_findAll (d := 0) (sc := sc) (ar := ar) hF hX hnb hS).up (by omega)) (fun rv g1 hc => ?_)
  obtain ⟨rfl, sc1, ar1, j1, n1, f1, tl1, q1, r1, e1, rfl, hj1, hR1, htl1, hqn1, hs1, ha1, hre1⟩ := hc
  have hX1 := hX.sr hs1 ha1
  have hmo1 : sc1 6309 = amx (rsv nw nb W B) (t3 (mny nw nb W B)).toNat := hR1.2.2.1
  have ham := amx_r (rsv nw nb W B) (t3 (mny nw nb W B)).toNat
  refine RQ.seg 1 (pc' := 29) (L' := [some (.ref 0), some (.int (iI j0))]) (st' := [.int (iI j0)]) (g1 := (HW sc1 ar1 tx (j1 + 118) rl ou (otl tl1 j1 n1 f1), q1)) rfl ?_
  refine RQ.if1 (a := j0) rfl rfl rfl (by omega) (fun (h3 : j0 ≠ 0) => ?_) (fun (h3 : ¬ j0 ≠ 0) => ?_)
  · skip
    refine RQ.seg 2 (pc' := 53) (L' := [some (.ref 0), some (.int (iI j0))]) (st' := [.ref 63]) (g1 := (HW sc1 ar1 tx (j1 + 118) rl ou (otl tl1 j1 n1 f1), q1)) rfl ?_
    refine RQ.call rfl rfl (CallR.up (d := 3) (x_mostSaved (d := 0) hF hX1 hj1 hR1) (by omega)) ?_
    refine RQ.ret rfl rfl ?_
    refine ⟨?_, sc1, ar1, j1, n1, f1, tl1, q1, r1, e1, rfl, hj1, hR1, htl1, hqn1, hs1, ha1, hre1⟩
    congr 3; unfold sMost; rw [if_pos (by omega)]; first | rw [if_pos (by omega)] | rw [if_neg (by omega)]
  · skip
    refine RQ.seg 5 (pc' := 43) (L' := [some (.ref 0), some (.int (iI j0))]) (st' := [.int (iI (sc1 6309)), .ref 63]) (g1 := (HW sc1 ar1 tx (j1 + 118) rl ou (otl tl1 j1 n1 f1), q1)) rfl ?_
    refine RQ.to (L' := [some (.ref 0), some (.int (iI j0))]) (st' := [.int (iI (amx (rsv nw nb W B) (t3 (mny nw nb W B)).toNat)), .ref 63]) rfl (by rw [show sc1 6309 = amx (rsv nw nb W B) (t3 (mny nw nb W B)).toNat from hmo1]) ?_
    refine RQ.call rfl rfl (CallR.up (d := 2) (x_rowAt (d := 0) (i := amx (rsv nw nb W B) (t3 (mny nw nb W B)).toNat) hF hX1 hR1.2.1 (by omega)) (by omega)) ?_
    refine RQ.seg 1 (pc' := 56) (L' := [some (.ref 0), some (.int (iI j0))]) (st' := [.int (iI (rnm (PI nw nb W B (amx (rsv nw nb W B) (t3 (mny nw nb W B)).toNat)) nb.toNat))]) (g1 := (HW sc1 ar1 tx (j1 + 118) rl ou (otl tl1 j1 n1 f1), q1)) rfl ?_
    refine RQ.ret rfl rfl ?_
    refine ⟨?_, sc1, ar1, j1, n1, f1, tl1, q1, r1, e1, rfl, hj1, hR1, htl1, hqn1, hs1, ha1, hre1⟩
    congr 3; unfold sMost; rw [if_pos (by omega)]; first | rw [if_pos (by omega)] | rw [if_neg (by omega)]
theorem x_laws_t {K : PK} {d : Nat} {sc : Nat → Int} {ar : Nat → Int → Int} {tx oc : Nat} {rl : Nat → Option Nat} {ou : Nat → Int64} {tl : List PO} {q : Nat × Nat} {j0 : Int} {nw nb : Int} {W B : Int → Int → Int} (hF : FrOK nw nb W B) (hX : FrX (sc 303) (sc 304) (ar 5) (ar 6) (ar 7) (ar 8) (ar 10) (ar 11) (ar 12) nw nb W B) {law : Int → Int} (hlw : ∀ j, 0 ≤ j → j < 4 → ar 32 j = law j) (hL : LwOK law) (hnb : 0 < nb) {r e : Int → Int} {n : Nat} (hS : RwS nw nb W B r e n oc tl sc ar) (hfl : 0 ≤ sc 7206 ∧ sc 7206 ≤ 1) (hKC : sc 7206 = 1 → sc 6306 = 1 ∧ sc 7209 = (lw3 (msv nw nb W B law)).1 ∧ sc 7210 = (lw3 (msv nw nb W B law)).2) (hj0 : 0 ≤ j0 ∧ j0 ≤ 1) : CQ K (d + 8) 122 [.ref 0, .int (iI j0)] (HW sc ar tx oc rl ou tl, q) (fun rv g' => rv = some (.int (iI (sLaws nw nb W B law j0))) ∧ RwP nw nb W B oc n tl q tx rl ou g' (fun sc' ar' r' e' => Same cpF sc sc' ∧ Same rnA ar ar' ∧ sc' 7206 = 1 ∧ sc' 7209 = (lw3 (msv nw nb W B law)).1 ∧ sc' 7210 = (lw3 (msv nw nb W B law)).2 ∧ (sc 6306 = 1 → r' = r ∧ e' = e))) := by
  have hn := hF.1
  have hm1 := hX.1
  have hm2 := hX.2.1
  have hB := mny_b (nw := nw) (nb := nb) (W := W) (B := B) hF.1.2.1
  have ht3 := t3_r hB
  have hLL := hL
  unfold LwOK at hLL
  refine CQ.of (own := 10) (n := 2) (ini := false) (rt := (some .int)) (cd := cd122) (by decide +kernel) rfl (by decide +kernel) rfl (Nat.le_of_ble_eq_true rfl) ?_
  refine RQ.seg 2 (pc' := 4) (L' := [some (.ref 0), some (.int (iI j0))]) (st' := [.ref 3]) (g1 := (HW sc ar tx oc rl ou tl, q)) rfl ?_
  refine RQ.call rfl rfl (x_standsN_t hX hF hnb) ?_
  refine RQ.seg 2 (pc' := 11) (L' := [some (.ref 0), some (.int (iI j0))]) (st' := [.int (iI j0)]) (g1 := (HW sc ar tx oc rl ou tl, q)) rfl ?_
  refine RQ.if1 (a := j0) rfl rfl rfl (by omega) (fun (q : j0 < 0) => absurd q (show ¬ j0 < 0 from by omega)) (fun _ => ?_)
  refine RQ.seg 2 (pc' := 16) (L' := [some (.ref 0), some (.int (iI j0))]) (st' := [.int (iI 1), .int (iI j0)]) (g1 := (HW sc ar tx oc rl ou tl, q)) rfl ?_
  refine RQ.if2 (a := j0) (b := 1) rfl rfl rfl rfl (by omega) (by omega) (fun _ => ?_) (fun (q : ¬ j0 ≤ 1) => absurd (show j0 ≤ 1 from by omega) q)
  refine RQ.seg 2 (pc' := 25) (L' := [some (.ref 0), some (.int (iI j0))]) (st' := [.ref 72]) (g1 := (HW sc ar tx oc rl ou tl, q)) rfl ?_
  refine RQ.callQ rfl rfl (x_compare hF hX hlw hL hnb hS hfl hKC) (fun rv g1 hc => ?_)
  obtain ⟨rfl, sc1, ar1, j1, n1, f1, tl1, q1, r1, e1, rfl, hj1, hR1, htl1, hqn1, hs1, ha1, h71, h79, h710, hre1⟩ := hc
  refine RQ.seg 1 (pc' := 29) (L' := [some (.ref 0), some (.int (iI j0))]) (st' := [.int (iI j0)]) (g1 := (HW sc1 ar1 tx (j1 + 118) rl ou (otl tl1 j1 n1 f1), q1)) rfl ?_
  refine RQ.if1 (a := j0) rfl rfl rfl (by omega) (fun (h3 : j0 ≠ 0) => ?_) (fun (h3 : ¬ j0 ≠ 0) => ?_)
  · skip
    refine RQ.seg 3 (pc' := 49) (L' := [some (.ref 0), some (.int (iI j0))]) (st' := [.int (iI (sc1 7210))]) (g1 := (HW sc1 ar1 tx (j1 + 118) rl ou (otl tl1 j1 n1 f1), q1)) rfl ?_
    refine RQ.ret rfl rfl ?_
    refine ⟨?_, sc1, ar1, j1, n1, f1, tl1, q1, r1, e1, rfl, hj1, hR1, htl1, hqn1, hs1, ha1, h71, h79, h710, hre1⟩
    rw [h710]; congr 3; unfold sLaws; rw [if_pos (by omega)]; first | rw [if_pos (by omega)] | rw [if_neg (by omega)]
  · skip
    refine RQ.seg 4 (pc' := 49) (L' := [some (.ref 0), some (.int (iI j0))]) (st' := [.int (iI (sc1 7209))]) (g1 := (HW sc1 ar1 tx (j1 + 118) rl ou (otl tl1 j1 n1 f1), q1)) rfl ?_
    refine RQ.ret rfl rfl ?_
    refine ⟨?_, sc1, ar1, j1, n1, f1, tl1, q1, r1, e1, rfl, hj1, hR1, htl1, hqn1, hs1, ha1, h71, h79, h710, hre1⟩
    rw [h79]; congr 3; unfold sLaws; rw [if_pos (by omega)]; first | rw [if_pos (by omega)] | rw [if_neg (by omega)]
theorem x_bribe {K : PK} {d : Nat} {sc : Nat → Int} {ar : Nat → Int → Int} {tx oc : Nat} {rl : Nat → Option Nat} {ou : Nat → Int64} {tl : List PO} {q : Nat × Nat} {nw nb : Int} {W B : Int → Int → Int} (hF : FrOK nw nb W B) (hX : FrX (sc 303) (sc 304) (ar 5) (ar 6) (ar 7) (ar 8) (ar 10) (ar 11) (ar 12) nw nb W B) {law : Int → Int} (hlw : ∀ j, 0 ≤ j → j < 4 → ar 32 j = law j) (hL : LwOK law) (hnb : 0 < nb) {r e : Int → Int} {n : Nat} (hS : RwS nw nb W B r e n oc tl sc ar) (hfl : 0 ≤ sc 7207 ∧ sc 7207 ≤ 1) (hKB : sc 7207 = 1 → sc 6306 = 1 ∧ sc 7208 = bbn (rsv nw nb W B) (pyv nw nb W B law) (rsv nw nb W B (amx (rsv nw nb W B) (t3 (mny nw nb W B)).toNat)) (t3 (mny nw nb W B)).toNat) : CQ K (d + 7) 123 [.ref 0] (HW sc ar tx oc rl ou tl, q) (fun rv g' => rv = some (.int (iI (sBribe nw nb W B law))) ∧ RwP nw nb W B oc n tl q tx rl ou g' (fun sc' ar' r' e' => Same brF sc sc' ∧ Same rnA ar ar' ∧ sc' 7207 = 1 ∧ sc' 7208 = bbn (rsv nw nb W B) (pyv nw nb W B law) (rsv nw nb W B (amx (rsv nw nb W B) (t3 (mny nw nb W B)).toNat)) (t3 (mny nw nb W B)).toNat ∧ (sc 6306 = 1 → r' = r ∧ e' = e))) := by
  have hn := hF.1
  have hm1 := hX.1
  have hm2 := hX.2.1
  have hB := mny_b (nw := nw) (nb := nb) (W := W) (B := B) hF.1.2.1
  have ht3 := t3_r hB
  have hLL := hL
  unfold LwOK at hLL
  refine CQ.of (own := 10) (n := 1) (ini := false) (rt := (some .int)) (cd := cd123) (by decide +kernel) rfl (by decide +kernel) rfl (Nat.le_of_ble_eq_true rfl) ?_
  refine RQ.seg 2 (pc' := 4) (L' := [some (.ref 0)]) (st' := [.ref 3]) (g1 := (HW sc ar tx oc rl ou tl, q)) rfl ?_
  refine RQ.call rfl rfl (x_standsN_t hX hF hnb) ?_
  refine RQ.seg 3 (pc' := 16) (L' := [some (.ref 0)]) (st' := [.ref 72]) (g1 := (HW sc ar tx oc rl ou tl, q)) rfl ?_
  refine RQ.callQ rfl rfl (x_leastBribe hF hX hlw hL hnb hS hfl hKB) (fun rv g1 hc => ?_)
  obtain ⟨rfl, sc1, ar1, j1, n1, f1, tl1, q1, r1, e1, rfl, hj1, hR1, htl1, hqn1, hs1, ha1, h71, h78, hre1⟩ := hc
  refine RQ.ret rfl rfl ?_
  refine ⟨?_, sc1, ar1, j1, n1, f1, tl1, q1, r1, e1, rfl, hj1, hR1, htl1, hqn1, hs1, ha1, h71, h78, hre1⟩
  congr 3; unfold sBribe; rw [if_pos hnb]
theorem x_rests_f {K : PK} {d : Nat} {sc : Nat → Int} {ar : Nat → Int → Int} {tx oc : Nat} {rl : Nat → Option Nat} {ou : Nat → Int64} {tl : List PO} {q : Nat × Nat} {nw nb : Int} {W B : Int → Int → Int} (hF : FrOK nw nb W B) (hX : FrX (sc 303) (sc 304) (ar 5) (ar 6) (ar 7) (ar 8) (ar 10) (ar 11) (ar 12) nw nb W B) {i : Int} (ri : -2147483648 ≤ i ∧ i < 2147483648) (hN : ¬ 0 < nb) : CallR K (d + 2) 119 [.ref 0, .int (iI i)] (HW sc ar tx oc rl ou tl, q) (some (.int (iI (-1)))) (HW sc ar tx oc rl ou tl, q) := by
  apply CQ.x
  have hn := hF.1
  have hm1 := hX.1
  have hm2 := hX.2.1
  refine CQ.of (own := 10) (n := 2) (ini := false) (rt := (some .int)) (cd := cd119) (by decide +kernel) rfl (by decide +kernel) rfl (Nat.le_of_ble_eq_true rfl) ?_
  refine RQ.seg 2 (pc' := 4) (L' := [some (.ref 0), some (.int (iI i))]) (st' := [.ref 3]) (g1 := (HW sc ar tx oc rl ou tl, q)) rfl ?_
  rcases Decidable.em (0 < nb) with h1 | h1
  · skip
    refine RQ.call rfl rfl (x_standsN_t hX hF h1) ?_
    refine RQ.seg 3 (pc' := 16) (L' := [some (.ref 0), some (.int (iI i))]) (st' := [.ref 72]) (g1 := (HW sc ar tx oc rl ou tl, q)) rfl ?_
    exfalso; omega
  · skip
    refine RQ.call rfl rfl (x_standsN_f hX hF h1) ?_
    refine RQ.seg 2 (pc' := 11) (L' := [some (.ref 0), some (.int (iI i))]) (st' := [.int (iI (-1))]) (g1 := (HW sc ar tx oc rl ou tl, q)) rfl ?_
    refine RQ.ret rfl rfl ?_
    exact ⟨rfl, rfl⟩
theorem x_loss_f {K : PK} {d : Nat} {sc : Nat → Int} {ar : Nat → Int → Int} {tx oc : Nat} {rl : Nat → Option Nat} {ou : Nat → Int64} {tl : List PO} {q : Nat × Nat} {nw nb : Int} {W B : Int → Int → Int} (hF : FrOK nw nb W B) (hX : FrX (sc 303) (sc 304) (ar 5) (ar 6) (ar 7) (ar 8) (ar 10) (ar 11) (ar 12) nw nb W B)  (hN : ¬ 0 < nb) : CallR K (d + 2) 121 [.ref 0] (HW sc ar tx oc rl ou tl, q) (some (.int (iI (-1000000)))) (HW sc ar tx oc rl ou tl, q) := by
  apply CQ.x
  have hn := hF.1
  have hm1 := hX.1
  have hm2 := hX.2.1
  refine CQ.of (own := 10) (n := 2) (ini := false) (rt := (some .int)) (cd := cd121) (by decide +kernel) rfl (by decide +kernel) rfl (Nat.le_of_ble_eq_true rfl) ?_
  refine RQ.seg 2 (pc' := 4) (L' := [some (.ref 0), none]) (st' := [.ref 3]) (g1 := (HW sc ar tx oc rl ou tl, q)) rfl ?_
  rcases Decidable.em (0 < nb) with h1 | h1
  · skip
    refine RQ.call rfl rfl (x_standsN_t hX hF h1) ?_
    refine RQ.seg 3 (pc' := 17) (L' := [some (.ref 0), none]) (st' := [.ref 72]) (g1 := (HW sc ar tx oc rl ou tl, q)) rfl ?_
    exfalso; omega
  · skip
    refine RQ.call rfl rfl (x_standsN_f hX hF h1) ?_
    refine RQ.seg 2 (pc' := 12) (L' := [some (.ref 0), none]) (st' := [.int (iI (-1000000))]) (g1 := (HW sc ar tx oc rl ou tl, q)) rfl ?_
    refine RQ.ret rfl rfl ?_
    exact ⟨rfl, rfl⟩
theorem x_bribe_f {K : PK} {d : Nat} {sc : Nat → Int} {ar : Nat → Int → Int} {tx oc : Nat} {rl : Nat → Option Nat} {ou : Nat → Int64} {tl : List PO} {q : Nat × Nat} {nw nb : Int} {W B : Int → Int → Int} (hF : FrOK nw nb W B) (hX : FrX (sc 303) (sc 304) (ar 5) (ar 6) (ar 7) (ar 8) (ar 10) (ar 11) (ar 12) nw nb W B)  (hN : ¬ 0 < nb) : CallR K (d + 2) 123 [.ref 0] (HW sc ar tx oc rl ou tl, q) (some (.int (iI (-1)))) (HW sc ar tx oc rl ou tl, q) := by
  apply CQ.x
  have hn := hF.1
  have hm1 := hX.1
  have hm2 := hX.2.1
  refine CQ.of (own := 10) (n := 1) (ini := false) (rt := (some .int)) (cd := cd123) (by decide +kernel) rfl (by decide +kernel) rfl (Nat.le_of_ble_eq_true rfl) ?_
  refine RQ.seg 2 (pc' := 4) (L' := [some (.ref 0)]) (st' := [.ref 3]) (g1 := (HW sc ar tx oc rl ou tl, q)) rfl ?_
  rcases Decidable.em (0 < nb) with h1 | h1
  · skip
    refine RQ.call rfl rfl (x_standsN_t hX hF h1) ?_
    refine RQ.seg 3 (pc' := 16) (L' := [some (.ref 0)]) (st' := [.ref 72]) (g1 := (HW sc ar tx oc rl ou tl, q)) rfl ?_
    exfalso; omega
  · skip
    refine RQ.call rfl rfl (x_standsN_f hX hF h1) ?_
    refine RQ.seg 2 (pc' := 11) (L' := [some (.ref 0)]) (st' := [.int (iI (-1))]) (g1 := (HW sc ar tx oc rl ou tl, q)) rfl ?_
    refine RQ.ret rfl rfl ?_
    exact ⟨rfl, rfl⟩
theorem x_most_f {K : PK} {d : Nat} {sc : Nat → Int} {ar : Nat → Int → Int} {tx oc : Nat} {rl : Nat → Option Nat} {ou : Nat → Int64} {tl : List PO} {q : Nat × Nat} {nw nb : Int} {W B : Int → Int → Int} (hF : FrOK nw nb W B) (hX : FrX (sc 303) (sc 304) (ar 5) (ar 6) (ar 7) (ar 8) (ar 10) (ar 11) (ar 12) nw nb W B) {j0 : Int} (rj0 : -2147483648 ≤ j0 ∧ j0 < 2147483648) (hN : ¬ (0 < nb ∧ 0 ≤ j0 ∧ j0 ≤ 1)) : CallR K (d + 2) 120 [.ref 0, .int (iI j0)] (HW sc ar tx oc rl ou tl, q) (some (.int (iI (-1)))) (HW sc ar tx oc rl ou tl, q) := by
  apply CQ.x
  have hn := hF.1
  have hm1 := hX.1
  have hm2 := hX.2.1
  refine CQ.of (own := 10) (n := 2) (ini := false) (rt := (some .int)) (cd := cd120) (by decide +kernel) rfl (by decide +kernel) rfl (Nat.le_of_ble_eq_true rfl) ?_
  refine RQ.seg 2 (pc' := 4) (L' := [some (.ref 0), some (.int (iI j0))]) (st' := [.ref 3]) (g1 := (HW sc ar tx oc rl ou tl, q)) rfl ?_
  rcases Decidable.em (0 < nb) with h1 | h1
  · skip
    refine RQ.call rfl rfl (x_standsN_t hX hF h1) ?_
    refine RQ.seg 2 (pc' := 11) (L' := [some (.ref 0), some (.int (iI j0))]) (st' := [.int (iI j0)]) (g1 := (HW sc ar tx oc rl ou tl, q)) rfl ?_
    refine RQ.if1 (a := j0) rfl rfl rfl (by omega) (fun (h2 : j0 < 0) => ?_) (fun (h2 : ¬ j0 < 0) => ?_)
    · skip
      refine RQ.seg 1 (pc' := 20) (L' := [some (.ref 0), some (.int (iI j0))]) (st' := [.int (iI (-1))]) (g1 := (HW sc ar tx oc rl ou tl, q)) rfl ?_
      refine RQ.ret rfl rfl ?_
      exact ⟨rfl, rfl⟩
    · skip
      refine RQ.seg 2 (pc' := 16) (L' := [some (.ref 0), some (.int (iI j0))]) (st' := [.int (iI 1), .int (iI j0)]) (g1 := (HW sc ar tx oc rl ou tl, q)) rfl ?_
      refine RQ.if2 (a := j0) (b := 1) rfl rfl rfl rfl (by omega) (by omega) (fun (h3 : j0 ≤ 1) => ?_) (fun (h3 : ¬ j0 ≤ 1) => ?_)
      · skip
        refine RQ.seg 2 (pc' := 25) (L' := [some (.ref 0), some (.int (iI j0))]) (st' := [.ref 63]) (g1 := (HW sc ar tx oc rl ou tl, q)) rfl ?_
        exfalso; omega
      · skip
        refine RQ.seg 1 (pc' := 20) (L' := [some (.ref 0), some (.int (iI j0))]) (st' := [.int (iI (-1))]) (g1 := (HW sc ar tx oc rl ou tl, q)) rfl ?_
        refine RQ.ret rfl rfl ?_
        exact ⟨rfl, rfl⟩
  · skip
    refine RQ.call rfl rfl (x_standsN_f hX hF h1) ?_
    refine RQ.seg 2 (pc' := 20) (L' := [some (.ref 0), some (.int (iI j0))]) (st' := [.int (iI (-1))]) (g1 := (HW sc ar tx oc rl ou tl, q)) rfl ?_
    refine RQ.ret rfl rfl ?_
    exact ⟨rfl, rfl⟩
theorem x_laws_f {K : PK} {d : Nat} {sc : Nat → Int} {ar : Nat → Int → Int} {tx oc : Nat} {rl : Nat → Option Nat} {ou : Nat → Int64} {tl : List PO} {q : Nat × Nat} {nw nb : Int} {W B : Int → Int → Int} (hF : FrOK nw nb W B) (hX : FrX (sc 303) (sc 304) (ar 5) (ar 6) (ar 7) (ar 8) (ar 10) (ar 11) (ar 12) nw nb W B) {j0 : Int} (rj0 : -2147483648 ≤ j0 ∧ j0 < 2147483648) (hN : ¬ (0 < nb ∧ 0 ≤ j0 ∧ j0 ≤ 1)) : CallR K (d + 2) 122 [.ref 0, .int (iI j0)] (HW sc ar tx oc rl ou tl, q) (some (.int (iI (-1)))) (HW sc ar tx oc rl ou tl, q) := by
  apply CQ.x
  have hn := hF.1
  have hm1 := hX.1
  have hm2 := hX.2.1
  refine CQ.of (own := 10) (n := 2) (ini := false) (rt := (some .int)) (cd := cd122) (by decide +kernel) rfl (by decide +kernel) rfl (Nat.le_of_ble_eq_true rfl) ?_
  refine RQ.seg 2 (pc' := 4) (L' := [some (.ref 0), some (.int (iI j0))]) (st' := [.ref 3]) (g1 := (HW sc ar tx oc rl ou tl, q)) rfl ?_
  rcases Decidable.em (0 < nb) with h1 | h1
  · skip
    refine RQ.call rfl rfl (x_standsN_t hX hF h1) ?_
    refine RQ.seg 2 (pc' := 11) (L' := [some (.ref 0), some (.int (iI j0))]) (st' := [.int (iI j0)]) (g1 := (HW sc ar tx oc rl ou tl, q)) rfl ?_
    refine RQ.if1 (a := j0) rfl rfl rfl (by omega) (fun (h2 : j0 < 0) => ?_) (fun (h2 : ¬ j0 < 0) => ?_)
    · skip
      refine RQ.seg 1 (pc' := 20) (L' := [some (.ref 0), some (.int (iI j0))]) (st' := [.int (iI (-1))]) (g1 := (HW sc ar tx oc rl ou tl, q)) rfl ?_
      refine RQ.ret rfl rfl ?_
      exact ⟨rfl, rfl⟩
    · skip
      refine RQ.seg 2 (pc' := 16) (L' := [some (.ref 0), some (.int (iI j0))]) (st' := [.int (iI 1), .int (iI j0)]) (g1 := (HW sc ar tx oc rl ou tl, q)) rfl ?_
      refine RQ.if2 (a := j0) (b := 1) rfl rfl rfl rfl (by omega) (by omega) (fun (h3 : j0 ≤ 1) => ?_) (fun (h3 : ¬ j0 ≤ 1) => ?_)
      · skip
        refine RQ.seg 2 (pc' := 25) (L' := [some (.ref 0), some (.int (iI j0))]) (st' := [.ref 72]) (g1 := (HW sc ar tx oc rl ou tl, q)) rfl ?_
        exfalso; omega
      · skip
        refine RQ.seg 1 (pc' := 20) (L' := [some (.ref 0), some (.int (iI j0))]) (st' := [.int (iI (-1))]) (g1 := (HW sc ar tx oc rl ou tl, q)) rfl ?_
        refine RQ.ret rfl rfl ?_
        exact ⟨rfl, rfl⟩
  · skip
    refine RQ.call rfl rfl (x_standsN_f hX hF h1) ?_
    refine RQ.seg 2 (pc' := 20) (L' := [some (.ref 0), some (.int (iI j0))]) (st' := [.int (iI (-1))]) (g1 := (HW sc ar tx oc rl ou tl, q)) rfl ?_
    refine RQ.ret rfl rfl ?_
    exact ⟨rfl, rfl⟩
