/-! the class visits, by wip/tools -/
theorem x_inTime {K : PK} {d : Nat} {sc : Nat → Int} {ar : Nat → Int → Int} {tx oc : Nat} {rl : Nat → Option Nat} {ou : Nat → Int64} {tl : List PO} {q : Nat × Nat} {w t : Int} {nw nb : Int} {W B : Int → Int → Int} (hF : FrOK nw nb W B) (hX : FrX (sc 303) (sc 304) (ar 5) (ar 6) (ar 7) (ar 8) (ar 10) (ar 11) (ar 12) nw nb W B) (hw : 0 ≤ w ∧ w < nw) (hl : 0 ≤ ar 55 w ∧ ar 55 w ≤ 9) (ht : 0 ≤ t ∧ t < 5000) : CallR K (d + 1) 38 [.ref 51, .int (iI w), .int (iI t)] (HW sc ar tx oc rl ou tl, q) (some (.int (iI (itm W (ar 55) w t)))) (HW sc ar tx oc rl ou tl, q) := by
  apply CQ.x
  have hn := hF.1
  have hm1 := hX.1
  have hm2 := hX.2.1
  refine CQ.of (own := 4) (n := 3) (ini := false) (rt := (some .int)) (cd := cd38) (by decide +kernel) rfl (by decide +kernel) rfl (Nat.le_of_ble_eq_true rfl) ?_
  refine RQ.seg 3 (pc' := 5) (L' := [some (.ref 51), some (.int (iI w)), some (.int (iI t))]) (st' := [.int (iI w), .ref 55]) (g1 := (HW sc ar tx oc rl ou tl, q)) rfl ?_
  refine RQ.iald (z := w) rfl rfl rfl (by omega) (by decide) ?_
  refine RQ.if1 (a := ((ar 55) w)) rfl rfl rfl (by omega) (fun (h1 : (ar 55) w ≤ 0) => ?_) (fun (h1 : ¬ (ar 55) w ≤ 0) => ?_)
  · skip
    refine RQ.seg 1 (pc' := 31) (L' := [some (.ref 51), some (.int (iI w)), some (.int (iI t))]) (st' := [.int (iI 1000)]) (g1 := (HW sc ar tx oc rl ou tl, q)) rfl ?_
    refine RQ.ret rfl rfl ?_
    refine ⟨?_, rfl⟩
    rw [itm]; first | rw [if_pos (by omega)] | rw [if_neg (by omega)]
  · skip
    refine RQ.seg 5 (pc' := 18) (L' := [some (.ref 51), some (.int (iI w)), some (.int (iI t))]) (st' := [.int (iI w), .ref 4, .int (iI t)]) (g1 := (HW sc ar tx oc rl ou tl, q)) rfl ?_
    refine RQ.aald (z := w) rfl rfl rfl (by omega) (by decide) ?_
    refine RQ.seg 1 (pc' := 20) (L' := [some (.ref 51), some (.int (iI w)), some (.int (iI t))]) (st' := [.int (iI 3), .ref (5 + w.toNat), .int (iI t)]) (g1 := (HW sc ar tx oc rl ou tl, q)) rfl ?_
    have hf1 := hF.2.1 w (by omega) (by omega)
    refine RQ.ialdv (z := 3) (v := (W w 3)) rfl rfl (HW_r4 (by omega)) (by omega) (by decide) (frx_w (j := 3) hX (by omega) (by omega) (by omega) (by omega) hF.1.2.1) ?_
    refine RQ.if2 (a := t) (b := (W w 3)) rfl rfl rfl rfl (by omega) (by omega) (fun (h2 : W w 3 ≤ t) => ?_) (fun (h2 : ¬ W w 3 ≤ t) => ?_)
    · skip
      refine RQ.seg 1 (pc' := 31) (L' := [some (.ref 51), some (.int (iI w)), some (.int (iI t))]) (st' := [.int (iI 1000)]) (g1 := (HW sc ar tx oc rl ou tl, q)) rfl ?_
      refine RQ.ret rfl rfl ?_
      refine ⟨?_, rfl⟩
      rw [itm]; first | rw [if_pos (by omega)] | rw [if_neg (by omega)]
    · skip
      refine RQ.seg 2 (pc' := 31) (L' := [some (.ref 51), some (.int (iI w)), some (.int (iI t))]) (st' := [.int (iI t)]) (g1 := (HW sc ar tx oc rl ou tl, q)) rfl ?_
      refine RQ.ret rfl rfl ?_
      refine ⟨?_, rfl⟩
      rw [itm]; first | rw [if_pos (by omega)] | rw [if_neg (by omega)]
theorem x_next {K : PK} {d : Nat} {sc : Nat → Int} {ar : Nat → Int → Int} {tx oc : Nat} {rl : Nat → Option Nat} {ou : Nat → Int64} {tl : List PO} {q : Nat × Nat} {nx : Int → Int} (hnx : ∀ j, 0 ≤ j → j < 3 → ar 54 j = nx j) (hr : ∀ j, 0 ≤ j → j < 3 → 0 ≤ nx j ∧ nx j ≤ 1000) : CallR K (d + 1) 39 [.ref 51] (HW sc ar tx oc rl ou tl, q) (some (.int (iI (if nx (amn nx) = 1000 then -1 else amn nx)))) (HW sc ar tx oc rl ou tl, q) := by
  apply CQ.x
  have r0 := hr 0 (by omega) (by omega)
  have r1 := hr 1 (by omega) (by omega)
  have r2 := hr 2 (by omega) (by omega)
  refine CQ.of (own := 4) (n := 3) (ini := false) (rt := (some .int)) (cd := cd39) (by decide +kernel) rfl (by decide +kernel) rfl (Nat.le_of_ble_eq_true rfl) ?_
  refine RQ.seg 10 (pc' := 14) (L' := [some (.ref 51), some (.int (iI 0)), some (.int (iI 1))]) (st' := [.int (iI 1), .ref 54]) (g1 := (HW sc ar tx oc rl ou tl, q)) rfl ?_
  refine RQ.ialdv (z := 1) (v := (nx 1)) rfl rfl rfl (by omega) (by decide) (hnx 1 (by omega) (by omega)) ?_
  refine RQ.seg 3 (pc' := 20) (L' := [some (.ref 51), some (.int (iI 0)), some (.int (iI 1))]) (st' := [.int (iI 0), .ref 54, .int (iI (nx 1))]) (g1 := (HW sc ar tx oc rl ou tl, q)) rfl ?_
  refine RQ.ialdv (z := 0) (v := (nx 0)) rfl rfl rfl (by omega) (by decide) (hnx 0 (by omega) (by omega)) ?_
  refine RQ.if2 (a := (nx 1)) (b := (nx 0)) rfl rfl rfl rfl (by omega) (by omega) (fun (h1 : nx 0 ≤ nx 1) => ?_) (fun (h1 : ¬ nx 0 ≤ nx 1) => ?_)
  · skip
    refine RQ.seg 8 (pc' := 14) (L' := [some (.ref 51), some (.int (iI 0)), some (.int (iI 2))]) (st' := [.int (iI 2), .ref 54]) (g1 := (HW sc ar tx oc rl ou tl, q)) rfl ?_
    refine RQ.ialdv (z := 2) (v := (nx 2)) rfl rfl rfl (by omega) (by decide) (hnx 2 (by omega) (by omega)) ?_
    refine RQ.seg 3 (pc' := 20) (L' := [some (.ref 51), some (.int (iI 0)), some (.int (iI 2))]) (st' := [.int (iI 0), .ref 54, .int (iI (nx 2))]) (g1 := (HW sc ar tx oc rl ou tl, q)) rfl ?_
    refine RQ.ialdv (z := 0) (v := (nx 0)) rfl rfl rfl (by omega) (by decide) (hnx 0 (by omega) (by omega)) ?_
    refine RQ.if2 (a := (nx 2)) (b := (nx 0)) rfl rfl rfl rfl (by omega) (by omega) (fun (h2 : nx 0 ≤ nx 2) => ?_) (fun (h2 : ¬ nx 0 ≤ nx 2) => ?_)
    · skip
      refine RQ.seg 8 (pc' := 37) (L' := [some (.ref 51), some (.int (iI 0)), some (.int (iI 3))]) (st' := [.int (iI 0), .ref 54]) (g1 := (HW sc ar tx oc rl ou tl, q)) rfl ?_
      refine RQ.ialdv (z := 0) (v := (nx 0)) rfl rfl rfl (by omega) (by decide) (hnx 0 (by omega) (by omega)) ?_
      refine RQ.seg 1 (pc' := 41) (L' := [some (.ref 51), some (.int (iI 0)), some (.int (iI 3))]) (st' := [.int (iI 1000), .int (iI (nx 0))]) (g1 := (HW sc ar tx oc rl ou tl, q)) rfl ?_
      refine RQ.if2 (a := (nx 0)) (b := 1000) rfl rfl rfl rfl (by omega) (by omega) (fun (h3 : nx 0 ≠ 1000) => ?_) (fun (h3 : ¬ nx 0 ≠ 1000) => ?_)
      · skip
        refine RQ.seg 1 (pc' := 49) (L' := [some (.ref 51), some (.int (iI 0)), some (.int (iI 3))]) (st' := [.int (iI 0)]) (g1 := (HW sc ar tx oc rl ou tl, q)) rfl ?_
        refine RQ.ret rfl rfl ?_
        refine ⟨?_, rfl⟩
        have ha : amn nx = 0 := by first | (exfalso; omega) | unfold amn; repeat (first | rw [if_pos (by omega)] | rw [if_neg (by omega)])
        rw [ha]; first | rw [if_pos (by omega)] | rw [if_neg (by omega)]
      · skip
        refine RQ.seg 2 (pc' := 49) (L' := [some (.ref 51), some (.int (iI 0)), some (.int (iI 3))]) (st' := [.int (iI (-1))]) (g1 := (HW sc ar tx oc rl ou tl, q)) rfl ?_
        refine RQ.ret rfl rfl ?_
        refine ⟨?_, rfl⟩
        have ha : amn nx = 0 := by first | (exfalso; omega) | unfold amn; repeat (first | rw [if_pos (by omega)] | rw [if_neg (by omega)])
        rw [ha]; first | rw [if_pos (by omega)] | rw [if_neg (by omega)]
    · skip
      refine RQ.seg 10 (pc' := 37) (L' := [some (.ref 51), some (.int (iI 2)), some (.int (iI 3))]) (st' := [.int (iI 2), .ref 54]) (g1 := (HW sc ar tx oc rl ou tl, q)) rfl ?_
      refine RQ.ialdv (z := 2) (v := (nx 2)) rfl rfl rfl (by omega) (by decide) (hnx 2 (by omega) (by omega)) ?_
      refine RQ.seg 1 (pc' := 41) (L' := [some (.ref 51), some (.int (iI 2)), some (.int (iI 3))]) (st' := [.int (iI 1000), .int (iI (nx 2))]) (g1 := (HW sc ar tx oc rl ou tl, q)) rfl ?_
      refine RQ.if2 (a := (nx 2)) (b := 1000) rfl rfl rfl rfl (by omega) (by omega) (fun (h4 : nx 2 ≠ 1000) => ?_) (fun (h4 : ¬ nx 2 ≠ 1000) => ?_)
      · skip
        refine RQ.seg 1 (pc' := 49) (L' := [some (.ref 51), some (.int (iI 2)), some (.int (iI 3))]) (st' := [.int (iI 2)]) (g1 := (HW sc ar tx oc rl ou tl, q)) rfl ?_
        refine RQ.ret rfl rfl ?_
        refine ⟨?_, rfl⟩
        have ha : amn nx = 2 := by first | (exfalso; omega) | unfold amn; repeat (first | rw [if_pos (by omega)] | rw [if_neg (by omega)])
        rw [ha]; first | rw [if_pos (by omega)] | rw [if_neg (by omega)]
      · skip
        refine RQ.seg 2 (pc' := 49) (L' := [some (.ref 51), some (.int (iI 2)), some (.int (iI 3))]) (st' := [.int (iI (-1))]) (g1 := (HW sc ar tx oc rl ou tl, q)) rfl ?_
        refine RQ.ret rfl rfl ?_
        refine ⟨?_, rfl⟩
        have ha : amn nx = 2 := by first | (exfalso; omega) | unfold amn; repeat (first | rw [if_pos (by omega)] | rw [if_neg (by omega)])
        rw [ha]; first | rw [if_pos (by omega)] | rw [if_neg (by omega)]
  · skip
    refine RQ.seg 10 (pc' := 14) (L' := [some (.ref 51), some (.int (iI 1)), some (.int (iI 2))]) (st' := [.int (iI 2), .ref 54]) (g1 := (HW sc ar tx oc rl ou tl, q)) rfl ?_
    refine RQ.ialdv (z := 2) (v := (nx 2)) rfl rfl rfl (by omega) (by decide) (hnx 2 (by omega) (by omega)) ?_
    refine RQ.seg 3 (pc' := 20) (L' := [some (.ref 51), some (.int (iI 1)), some (.int (iI 2))]) (st' := [.int (iI 1), .ref 54, .int (iI (nx 2))]) (g1 := (HW sc ar tx oc rl ou tl, q)) rfl ?_
    refine RQ.ialdv (z := 1) (v := (nx 1)) rfl rfl rfl (by omega) (by decide) (hnx 1 (by omega) (by omega)) ?_
    refine RQ.if2 (a := (nx 2)) (b := (nx 1)) rfl rfl rfl rfl (by omega) (by omega) (fun (h5 : nx 1 ≤ nx 2) => ?_) (fun (h5 : ¬ nx 1 ≤ nx 2) => ?_)
    · skip
      refine RQ.seg 8 (pc' := 37) (L' := [some (.ref 51), some (.int (iI 1)), some (.int (iI 3))]) (st' := [.int (iI 1), .ref 54]) (g1 := (HW sc ar tx oc rl ou tl, q)) rfl ?_
      refine RQ.ialdv (z := 1) (v := (nx 1)) rfl rfl rfl (by omega) (by decide) (hnx 1 (by omega) (by omega)) ?_
      refine RQ.seg 1 (pc' := 41) (L' := [some (.ref 51), some (.int (iI 1)), some (.int (iI 3))]) (st' := [.int (iI 1000), .int (iI (nx 1))]) (g1 := (HW sc ar tx oc rl ou tl, q)) rfl ?_
      refine RQ.if2 (a := (nx 1)) (b := 1000) rfl rfl rfl rfl (by omega) (by omega) (fun (h6 : nx 1 ≠ 1000) => ?_) (fun (h6 : ¬ nx 1 ≠ 1000) => ?_)
      · skip
        refine RQ.seg 1 (pc' := 49) (L' := [some (.ref 51), some (.int (iI 1)), some (.int (iI 3))]) (st' := [.int (iI 1)]) (g1 := (HW sc ar tx oc rl ou tl, q)) rfl ?_
        refine RQ.ret rfl rfl ?_
        refine ⟨?_, rfl⟩
        have ha : amn nx = 1 := by first | (exfalso; omega) | unfold amn; repeat (first | rw [if_pos (by omega)] | rw [if_neg (by omega)])
        rw [ha]; first | rw [if_pos (by omega)] | rw [if_neg (by omega)]
      · skip
        refine RQ.seg 2 (pc' := 49) (L' := [some (.ref 51), some (.int (iI 1)), some (.int (iI 3))]) (st' := [.int (iI (-1))]) (g1 := (HW sc ar tx oc rl ou tl, q)) rfl ?_
        refine RQ.ret rfl rfl ?_
        refine ⟨?_, rfl⟩
        have ha : amn nx = 1 := by first | (exfalso; omega) | unfold amn; repeat (first | rw [if_pos (by omega)] | rw [if_neg (by omega)])
        rw [ha]; first | rw [if_pos (by omega)] | rw [if_neg (by omega)]
    · skip
      refine RQ.seg 10 (pc' := 37) (L' := [some (.ref 51), some (.int (iI 2)), some (.int (iI 3))]) (st' := [.int (iI 2), .ref 54]) (g1 := (HW sc ar tx oc rl ou tl, q)) rfl ?_
      refine RQ.ialdv (z := 2) (v := (nx 2)) rfl rfl rfl (by omega) (by decide) (hnx 2 (by omega) (by omega)) ?_
      refine RQ.seg 1 (pc' := 41) (L' := [some (.ref 51), some (.int (iI 2)), some (.int (iI 3))]) (st' := [.int (iI 1000), .int (iI (nx 2))]) (g1 := (HW sc ar tx oc rl ou tl, q)) rfl ?_
      refine RQ.if2 (a := (nx 2)) (b := 1000) rfl rfl rfl rfl (by omega) (by omega) (fun (h7 : nx 2 ≠ 1000) => ?_) (fun (h7 : ¬ nx 2 ≠ 1000) => ?_)
      · skip
        refine RQ.seg 1 (pc' := 49) (L' := [some (.ref 51), some (.int (iI 2)), some (.int (iI 3))]) (st' := [.int (iI 2)]) (g1 := (HW sc ar tx oc rl ou tl, q)) rfl ?_
        refine RQ.ret rfl rfl ?_
        refine ⟨?_, rfl⟩
        have ha : amn nx = 2 := by first | (exfalso; omega) | unfold amn; repeat (first | rw [if_pos (by omega)] | rw [if_neg (by omega)])
        rw [ha]; first | rw [if_pos (by omega)] | rw [if_neg (by omega)]
      · skip
        refine RQ.seg 2 (pc' := 49) (L' := [some (.ref 51), some (.int (iI 2)), some (.int (iI 3))]) (st' := [.int (iI (-1))]) (g1 := (HW sc ar tx oc rl ou tl, q)) rfl ?_
        refine RQ.ret rfl rfl ?_
        refine ⟨?_, rfl⟩
        have ha : amn nx = 2 := by first | (exfalso; omega) | unfold amn; repeat (first | rw [if_pos (by omega)] | rw [if_neg (by omega)])
        rw [ha]; first | rw [if_pos (by omega)] | rw [if_neg (by omega)]
theorem x_leave {K : PK} {d : Nat} {sc : Nat → Int} {ar : Nat → Int → Int} {tx oc : Nat} {rl : Nat → Option Nat} {ou : Nat → Int64} {tl : List PO} {q : Nat × Nat} {w : Int} {nx wi : Int → Int} (hwi : ∀ j, 0 ≤ j → j < 3 → ar 53 j = wi j) (hw : 0 ≤ w ∧ w < 10) (hr : ∀ j, 0 ≤ j → j < 3 → -1 ≤ wi j ∧ wi j < 10) : CQ K (d + 1) 41 [.ref 51, .int (iI w)] (HW sc (usc ar 54 nx) tx oc rl ou tl, q) (fun r g' => r = none ∧ ∃ nx', g' = (HW sc (usc ar 54 nx') tx oc rl ou tl, q) ∧ ∀ j, 0 ≤ j → j < 3 → nx' j = if wi j = w then 1000 else nx j) := by
  have r0 := hr 0 (by omega) (by omega)
  have r1 := hr 1 (by omega) (by omega)
  have r2 := hr 2 (by omega) (by omega)
  refine CQ.of (own := 4) (n := 3) (ini := false) (rt := none) (cd := cd41) (by decide +kernel) rfl (by decide +kernel) rfl (Nat.le_of_ble_eq_true rfl) ?_
  refine RQ.seg 8 (pc' := 12) (L' := [some (.ref 51), some (.int (iI w)), some (.int (iI 0))]) (st' := [.int (iI 0), .ref 53]) (g1 := (HW sc (usc ar 54 nx) tx oc rl ou tl, q)) rfl ?_
  refine RQ.ialdv (z := 0) (v := (wi 0)) rfl rfl rfl (by omega) (by decide) (hwi 0 (by omega) (by omega)) ?_
  refine RQ.seg 1 (pc' := 14) (L' := [some (.ref 51), some (.int (iI w)), some (.int (iI 0))]) (st' := [.int (iI w), .int (iI (wi 0))]) (g1 := (HW sc (usc ar 54 nx) tx oc rl ou tl, q)) rfl ?_
  refine RQ.if2 (a := (wi 0)) (b := w) rfl rfl rfl rfl (by omega) (by omega) (fun (h1 : wi 0 ≠ w) => ?_) (fun (h1 : ¬ wi 0 ≠ w) => ?_)
  · skip
    refine RQ.seg 8 (pc' := 12) (L' := [some (.ref 51), some (.int (iI w)), some (.int (iI 1))]) (st' := [.int (iI 1), .ref 53]) (g1 := (HW sc (usc ar 54 nx) tx oc rl ou tl, q)) rfl ?_
    refine RQ.ialdv (z := 1) (v := (wi 1)) rfl rfl rfl (by omega) (by decide) (hwi 1 (by omega) (by omega)) ?_
    refine RQ.seg 1 (pc' := 14) (L' := [some (.ref 51), some (.int (iI w)), some (.int (iI 1))]) (st' := [.int (iI w), .int (iI (wi 1))]) (g1 := (HW sc (usc ar 54 nx) tx oc rl ou tl, q)) rfl ?_
    refine RQ.if2 (a := (wi 1)) (b := w) rfl rfl rfl rfl (by omega) (by omega) (fun (h2 : wi 1 ≠ w) => ?_) (fun (h2 : ¬ wi 1 ≠ w) => ?_)
    · skip
      refine RQ.seg 8 (pc' := 12) (L' := [some (.ref 51), some (.int (iI w)), some (.int (iI 2))]) (st' := [.int (iI 2), .ref 53]) (g1 := (HW sc (usc ar 54 nx) tx oc rl ou tl, q)) rfl ?_
      refine RQ.ialdv (z := 2) (v := (wi 2)) rfl rfl rfl (by omega) (by decide) (hwi 2 (by omega) (by omega)) ?_
      refine RQ.seg 1 (pc' := 14) (L' := [some (.ref 51), some (.int (iI w)), some (.int (iI 2))]) (st' := [.int (iI w), .int (iI (wi 2))]) (g1 := (HW sc (usc ar 54 nx) tx oc rl ou tl, q)) rfl ?_
      refine RQ.if2 (a := (wi 2)) (b := w) rfl rfl rfl rfl (by omega) (by omega) (fun (h3 : wi 2 ≠ w) => ?_) (fun (h3 : ¬ wi 2 ≠ w) => ?_)
      · skip
        refine RQ.seg 5 (pc' := 32) (L' := [some (.ref 51), some (.int (iI w)), some (.int (iI 3))]) (st' := []) (g1 := (HW sc (usc ar 54 nx) tx oc rl ou tl, q)) rfl ?_
        refine RQ.ret rfl rfl ?_
        refine ⟨rfl, _, rfl, fun j h0 h1 => ?_⟩
        rcases (show j = 0 ∨ j = 1 ∨ j = 2 by omega) with rfl | rfl | rfl
        · first | rw [if_pos (by omega)] | rw [if_neg (by omega)]
        · first | rw [if_pos (by omega)] | rw [if_neg (by omega)]
        · first | rw [if_pos (by omega)] | rw [if_neg (by omega)]
      · skip
        refine RQ.seg 4 (pc' := 25) (L' := [some (.ref 51), some (.int (iI w)), some (.int (iI 2))]) (st' := [.int (iI 1000), .int (iI 2), .ref 54]) (g1 := (HW sc (usc ar 54 nx) tx oc rl ou tl, q)) rfl ?_
        refine RQ.iast (z := 2) (v := 1000) (g1 := (HW sc (usc ar 54 (usz nx 2 1000)) tx oc rl ou tl, q)) rfl rfl rfl rfl (by omega) (by decide) (HWa_54 (by funext j; unfold usc; cases hb : Nat.beq j 54 <;> first | rfl | (rw [Nat.eq_of_beq_eq_true hb]; rfl))) ?_
        refine RQ.seg 5 (pc' := 32) (L' := [some (.ref 51), some (.int (iI w)), some (.int (iI 3))]) (st' := []) (g1 := (HW sc (usc ar 54 (usz nx 2 1000)) tx oc rl ou tl, q)) rfl ?_
        refine RQ.ret rfl rfl ?_
        refine ⟨rfl, _, rfl, fun j h0 h1 => ?_⟩
        rcases (show j = 0 ∨ j = 1 ∨ j = 2 by omega) with rfl | rfl | rfl
        · rw [show (usz nx 2 1000) 0 = nx 0 by rw [usz_n (by omega)]]; first | rw [if_pos (by omega)] | rw [if_neg (by omega)]
        · rw [show (usz nx 2 1000) 1 = nx 1 by rw [usz_n (by omega)]]; first | rw [if_pos (by omega)] | rw [if_neg (by omega)]
        · rw [show (usz nx 2 1000) 2 = 1000 by rw [usz_s]]; first | rw [if_pos (by omega)] | rw [if_neg (by omega)]
    · skip
      refine RQ.seg 4 (pc' := 25) (L' := [some (.ref 51), some (.int (iI w)), some (.int (iI 1))]) (st' := [.int (iI 1000), .int (iI 1), .ref 54]) (g1 := (HW sc (usc ar 54 nx) tx oc rl ou tl, q)) rfl ?_
      refine RQ.iast (z := 1) (v := 1000) (g1 := (HW sc (usc ar 54 (usz nx 1 1000)) tx oc rl ou tl, q)) rfl rfl rfl rfl (by omega) (by decide) (HWa_54 (by funext j; unfold usc; cases hb : Nat.beq j 54 <;> first | rfl | (rw [Nat.eq_of_beq_eq_true hb]; rfl))) ?_
      refine RQ.seg 8 (pc' := 12) (L' := [some (.ref 51), some (.int (iI w)), some (.int (iI 2))]) (st' := [.int (iI 2), .ref 53]) (g1 := (HW sc (usc ar 54 (usz nx 1 1000)) tx oc rl ou tl, q)) rfl ?_
      refine RQ.ialdv (z := 2) (v := (wi 2)) rfl rfl rfl (by omega) (by decide) (hwi 2 (by omega) (by omega)) ?_
      refine RQ.seg 1 (pc' := 14) (L' := [some (.ref 51), some (.int (iI w)), some (.int (iI 2))]) (st' := [.int (iI w), .int (iI (wi 2))]) (g1 := (HW sc (usc ar 54 (usz nx 1 1000)) tx oc rl ou tl, q)) rfl ?_
      refine RQ.if2 (a := (wi 2)) (b := w) rfl rfl rfl rfl (by omega) (by omega) (fun (h4 : wi 2 ≠ w) => ?_) (fun (h4 : ¬ wi 2 ≠ w) => ?_)
      · skip
        refine RQ.seg 5 (pc' := 32) (L' := [some (.ref 51), some (.int (iI w)), some (.int (iI 3))]) (st' := []) (g1 := (HW sc (usc ar 54 (usz nx 1 1000)) tx oc rl ou tl, q)) rfl ?_
        refine RQ.ret rfl rfl ?_
        refine ⟨rfl, _, rfl, fun j h0 h1 => ?_⟩
        rcases (show j = 0 ∨ j = 1 ∨ j = 2 by omega) with rfl | rfl | rfl
        · rw [show (usz nx 1 1000) 0 = nx 0 by rw [usz_n (by omega)]]; first | rw [if_pos (by omega)] | rw [if_neg (by omega)]
        · rw [show (usz nx 1 1000) 1 = 1000 by rw [usz_s]]; first | rw [if_pos (by omega)] | rw [if_neg (by omega)]
        · rw [show (usz nx 1 1000) 2 = nx 2 by rw [usz_n (by omega)]]; first | rw [if_pos (by omega)] | rw [if_neg (by omega)]
      · skip
        refine RQ.seg 4 (pc' := 25) (L' := [some (.ref 51), some (.int (iI w)), some (.int (iI 2))]) (st' := [.int (iI 1000), .int (iI 2), .ref 54]) (g1 := (HW sc (usc ar 54 (usz nx 1 1000)) tx oc rl ou tl, q)) rfl ?_
        refine RQ.iast (z := 2) (v := 1000) (g1 := (HW sc (usc ar 54 (usz (usz nx 1 1000) 2 1000)) tx oc rl ou tl, q)) rfl rfl rfl rfl (by omega) (by decide) (HWa_54 (by funext j; unfold usc; cases hb : Nat.beq j 54 <;> first | rfl | (rw [Nat.eq_of_beq_eq_true hb]; rfl))) ?_
        refine RQ.seg 5 (pc' := 32) (L' := [some (.ref 51), some (.int (iI w)), some (.int (iI 3))]) (st' := []) (g1 := (HW sc (usc ar 54 (usz (usz nx 1 1000) 2 1000)) tx oc rl ou tl, q)) rfl ?_
        refine RQ.ret rfl rfl ?_
        refine ⟨rfl, _, rfl, fun j h0 h1 => ?_⟩
        rcases (show j = 0 ∨ j = 1 ∨ j = 2 by omega) with rfl | rfl | rfl
        · rw [show (usz (usz nx 1 1000) 2 1000) 0 = nx 0 by rw [usz_n (by omega), usz_n (by omega)]]; first | rw [if_pos (by omega)] | rw [if_neg (by omega)]
        · rw [show (usz (usz nx 1 1000) 2 1000) 1 = 1000 by rw [usz_n (by omega), usz_s]]; first | rw [if_pos (by omega)] | rw [if_neg (by omega)]
        · rw [show (usz (usz nx 1 1000) 2 1000) 2 = 1000 by rw [usz_s]]; first | rw [if_pos (by omega)] | rw [if_neg (by omega)]
  · skip
    refine RQ.seg 4 (pc' := 25) (L' := [some (.ref 51), some (.int (iI w)), some (.int (iI 0))]) (st' := [.int (iI 1000), .int (iI 0), .ref 54]) (g1 := (HW sc (usc ar 54 nx) tx oc rl ou tl, q)) rfl ?_
    refine RQ.iast (z := 0) (v := 1000) (g1 := (HW sc (usc ar 54 (usz nx 0 1000)) tx oc rl ou tl, q)) rfl rfl rfl rfl (by omega) (by decide) (HWa_54 (by funext j; unfold usc; cases hb : Nat.beq j 54 <;> first | rfl | (rw [Nat.eq_of_beq_eq_true hb]; rfl))) ?_
    refine RQ.seg 8 (pc' := 12) (L' := [some (.ref 51), some (.int (iI w)), some (.int (iI 1))]) (st' := [.int (iI 1), .ref 53]) (g1 := (HW sc (usc ar 54 (usz nx 0 1000)) tx oc rl ou tl, q)) rfl ?_
    refine RQ.ialdv (z := 1) (v := (wi 1)) rfl rfl rfl (by omega) (by decide) (hwi 1 (by omega) (by omega)) ?_
    refine RQ.seg 1 (pc' := 14) (L' := [some (.ref 51), some (.int (iI w)), some (.int (iI 1))]) (st' := [.int (iI w), .int (iI (wi 1))]) (g1 := (HW sc (usc ar 54 (usz nx 0 1000)) tx oc rl ou tl, q)) rfl ?_
    refine RQ.if2 (a := (wi 1)) (b := w) rfl rfl rfl rfl (by omega) (by omega) (fun (h5 : wi 1 ≠ w) => ?_) (fun (h5 : ¬ wi 1 ≠ w) => ?_)
    · skip
      refine RQ.seg 8 (pc' := 12) (L' := [some (.ref 51), some (.int (iI w)), some (.int (iI 2))]) (st' := [.int (iI 2), .ref 53]) (g1 := (HW sc (usc ar 54 (usz nx 0 1000)) tx oc rl ou tl, q)) rfl ?_
      refine RQ.ialdv (z := 2) (v := (wi 2)) rfl rfl rfl (by omega) (by decide) (hwi 2 (by omega) (by omega)) ?_
      refine RQ.seg 1 (pc' := 14) (L' := [some (.ref 51), some (.int (iI w)), some (.int (iI 2))]) (st' := [.int (iI w), .int (iI (wi 2))]) (g1 := (HW sc (usc ar 54 (usz nx 0 1000)) tx oc rl ou tl, q)) rfl ?_
      refine RQ.if2 (a := (wi 2)) (b := w) rfl rfl rfl rfl (by omega) (by omega) (fun (h6 : wi 2 ≠ w) => ?_) (fun (h6 : ¬ wi 2 ≠ w) => ?_)
      · skip
        refine RQ.seg 5 (pc' := 32) (L' := [some (.ref 51), some (.int (iI w)), some (.int (iI 3))]) (st' := []) (g1 := (HW sc (usc ar 54 (usz nx 0 1000)) tx oc rl ou tl, q)) rfl ?_
        refine RQ.ret rfl rfl ?_
        refine ⟨rfl, _, rfl, fun j h0 h1 => ?_⟩
        rcases (show j = 0 ∨ j = 1 ∨ j = 2 by omega) with rfl | rfl | rfl
        · rw [show (usz nx 0 1000) 0 = 1000 by rw [usz_s]]; first | rw [if_pos (by omega)] | rw [if_neg (by omega)]
        · rw [show (usz nx 0 1000) 1 = nx 1 by rw [usz_n (by omega)]]; first | rw [if_pos (by omega)] | rw [if_neg (by omega)]
        · rw [show (usz nx 0 1000) 2 = nx 2 by rw [usz_n (by omega)]]; first | rw [if_pos (by omega)] | rw [if_neg (by omega)]
      · skip
        refine RQ.seg 4 (pc' := 25) (L' := [some (.ref 51), some (.int (iI w)), some (.int (iI 2))]) (st' := [.int (iI 1000), .int (iI 2), .ref 54]) (g1 := (HW sc (usc ar 54 (usz nx 0 1000)) tx oc rl ou tl, q)) rfl ?_
        refine RQ.iast (z := 2) (v := 1000) (g1 := (HW sc (usc ar 54 (usz (usz nx 0 1000) 2 1000)) tx oc rl ou tl, q)) rfl rfl rfl rfl (by omega) (by decide) (HWa_54 (by funext j; unfold usc; cases hb : Nat.beq j 54 <;> first | rfl | (rw [Nat.eq_of_beq_eq_true hb]; rfl))) ?_
        refine RQ.seg 5 (pc' := 32) (L' := [some (.ref 51), some (.int (iI w)), some (.int (iI 3))]) (st' := []) (g1 := (HW sc (usc ar 54 (usz (usz nx 0 1000) 2 1000)) tx oc rl ou tl, q)) rfl ?_
        refine RQ.ret rfl rfl ?_
        refine ⟨rfl, _, rfl, fun j h0 h1 => ?_⟩
        rcases (show j = 0 ∨ j = 1 ∨ j = 2 by omega) with rfl | rfl | rfl
        · rw [show (usz (usz nx 0 1000) 2 1000) 0 = 1000 by rw [usz_n (by omega), usz_s]]; first | rw [if_pos (by omega)] | rw [if_neg (by omega)]
        · rw [show (usz (usz nx 0 1000) 2 1000) 1 = nx 1 by rw [usz_n (by omega), usz_n (by omega)]]; first | rw [if_pos (by omega)] | rw [if_neg (by omega)]
        · rw [show (usz (usz nx 0 1000) 2 1000) 2 = 1000 by rw [usz_s]]; first | rw [if_pos (by omega)] | rw [if_neg (by omega)]
    · skip
      refine RQ.seg 4 (pc' := 25) (L' := [some (.ref 51), some (.int (iI w)), some (.int (iI 1))]) (st' := [.int (iI 1000), .int (iI 1), .ref 54]) (g1 := (HW sc (usc ar 54 (usz nx 0 1000)) tx oc rl ou tl, q)) rfl ?_
      refine RQ.iast (z := 1) (v := 1000) (g1 := (HW sc (usc ar 54 (usz (usz nx 0 1000) 1 1000)) tx oc rl ou tl, q)) rfl rfl rfl rfl (by omega) (by decide) (HWa_54 (by funext j; unfold usc; cases hb : Nat.beq j 54 <;> first | rfl | (rw [Nat.eq_of_beq_eq_true hb]; rfl))) ?_
      refine RQ.seg 8 (pc' := 12) (L' := [some (.ref 51), some (.int (iI w)), some (.int (iI 2))]) (st' := [.int (iI 2), .ref 53]) (g1 := (HW sc (usc ar 54 (usz (usz nx 0 1000) 1 1000)) tx oc rl ou tl, q)) rfl ?_
      refine RQ.ialdv (z := 2) (v := (wi 2)) rfl rfl rfl (by omega) (by decide) (hwi 2 (by omega) (by omega)) ?_
      refine RQ.seg 1 (pc' := 14) (L' := [some (.ref 51), some (.int (iI w)), some (.int (iI 2))]) (st' := [.int (iI w), .int (iI (wi 2))]) (g1 := (HW sc (usc ar 54 (usz (usz nx 0 1000) 1 1000)) tx oc rl ou tl, q)) rfl ?_
      refine RQ.if2 (a := (wi 2)) (b := w) rfl rfl rfl rfl (by omega) (by omega) (fun (h7 : wi 2 ≠ w) => ?_) (fun (h7 : ¬ wi 2 ≠ w) => ?_)
      · skip
        refine RQ.seg 5 (pc' := 32) (L' := [some (.ref 51), some (.int (iI w)), some (.int (iI 3))]) (st' := []) (g1 := (HW sc (usc ar 54 (usz (usz nx 0 1000) 1 1000)) tx oc rl ou tl, q)) rfl ?_
        refine RQ.ret rfl rfl ?_
        refine ⟨rfl, _, rfl, fun j h0 h1 => ?_⟩
        rcases (show j = 0 ∨ j = 1 ∨ j = 2 by omega) with rfl | rfl | rfl
        · rw [show (usz (usz nx 0 1000) 1 1000) 0 = 1000 by rw [usz_n (by omega), usz_s]]; first | rw [if_pos (by omega)] | rw [if_neg (by omega)]
        · rw [show (usz (usz nx 0 1000) 1 1000) 1 = 1000 by rw [usz_s]]; first | rw [if_pos (by omega)] | rw [if_neg (by omega)]
        · rw [show (usz (usz nx 0 1000) 1 1000) 2 = nx 2 by rw [usz_n (by omega), usz_n (by omega)]]; first | rw [if_pos (by omega)] | rw [if_neg (by omega)]
      · skip
        refine RQ.seg 4 (pc' := 25) (L' := [some (.ref 51), some (.int (iI w)), some (.int (iI 2))]) (st' := [.int (iI 1000), .int (iI 2), .ref 54]) (g1 := (HW sc (usc ar 54 (usz (usz nx 0 1000) 1 1000)) tx oc rl ou tl, q)) rfl ?_
        refine RQ.iast (z := 2) (v := 1000) (g1 := (HW sc (usc ar 54 (usz (usz (usz nx 0 1000) 1 1000) 2 1000)) tx oc rl ou tl, q)) rfl rfl rfl rfl (by omega) (by decide) (HWa_54 (by funext j; unfold usc; cases hb : Nat.beq j 54 <;> first | rfl | (rw [Nat.eq_of_beq_eq_true hb]; rfl))) ?_
        refine RQ.seg 5 (pc' := 32) (L' := [some (.ref 51), some (.int (iI w)), some (.int (iI 3))]) (st' := []) (g1 := (HW sc (usc ar 54 (usz (usz (usz nx 0 1000) 1 1000) 2 1000)) tx oc rl ou tl, q)) rfl ?_
        refine RQ.ret rfl rfl ?_
        refine ⟨rfl, _, rfl, fun j h0 h1 => ?_⟩
        rcases (show j = 0 ∨ j = 1 ∨ j = 2 by omega) with rfl | rfl | rfl
        · rw [show (usz (usz (usz nx 0 1000) 1 1000) 2 1000) 0 = 1000 by rw [usz_n (by omega), usz_n (by omega), usz_s]]; first | rw [if_pos (by omega)] | rw [if_neg (by omega)]
        · rw [show (usz (usz (usz nx 0 1000) 1 1000) 2 1000) 1 = 1000 by rw [usz_n (by omega), usz_s]]; first | rw [if_pos (by omega)] | rw [if_neg (by omega)]
        · rw [show (usz (usz (usz nx 0 1000) 1 1000) 2 1000) 2 = 1000 by rw [usz_s]]; first | rw [if_pos (by omega)] | rw [if_neg (by omega)]
theorem x_take {K : PK} {d : Nat} {sc : Nat → Int} {ar : Nat → Int → Int} {tx oc : Nat} {rl : Nat → Option Nat} {ou : Nat → Int64} {tl : List PO} {q : Nat × Nat} {b : Int} {S : SV} {pl wi nx sh cl : Int → Int} {nw nb : Int} {W B : Int → Int → Int} (hF : FrOK nw nb W B) (hX : FrX (sc 303) (sc 304) (ar 5) (ar 6) (ar 7) (ar 8) (ar 10) (ar 11) (ar 12) nw nb W B) {P : Int → Int} (hmy : PtOK nw nb W B P) (hwi : ∀ j, 0 ≤ j → j < 3 → wi j = xwi nb B P j) (hcl : ∀ j, 0 ≤ j → j < nb → bkv nb B P j = 0 → cl j = clb nb W B P j) (hb : 0 ≤ b ∧ b < nb) (hbk : bkv nb B P b = 0) (hS : SOK nw nb S) (hx : 0 ≤ nx b ∧ nx b < 60) (hl : 0 < sL S (P b % 10)) : CQ K (d + 2) 40 [.ref 51, .int (iI b)] (HW (usc sc 5112 (sT S)) (usc (usc (usc (usc (usc (usc (usc (usc (usc (usc (usc ar 52 pl) 53 wi) 54 nx) 55 (sL S)) 56 (sF S)) 57 sh) 58 cl) 59 (sS S)) 60 (sA S)) 61 (sB S)) 62 (sC S)) tx oc rl ou tl, q) (fun r g' => r = none ∧ ∃ nx', g' = (HW (usc sc 5112 (sT (vtk S (P b % 10) b (nx b)))) (usc (usc (usc (usc (usc (usc (usc (usc (usc (usc (usc ar 52 pl) 53 wi) 54 nx') 55 (sL (vtk S (P b % 10) b (nx b)))) 56 (sF (vtk S (P b % 10) b (nx b)))) 57 sh) 58 cl) 59 (sS (vtk S (P b % 10) b (nx b)))) 60 (sA (vtk S (P b % 10) b (nx b)))) 61 (sB (vtk S (P b % 10) b (nx b)))) 62 (sC (vtk S (P b % 10) b (nx b)))) tx oc rl ou tl, q) ∧ ∀ j, 0 ≤ j → j < 3 → nx' j = nxu nb W B P S nx b j) := by
  have hn := hF.1
  have hm1 := hX.1
  have hm2 := hX.2.1
  have ew := xwi_t hb.2 hbk
  have hpw := hmy.w hb.1 hb.2 hbk
  have hc := clb_r hF hmy hb.1 hb.2 hbk
  have hsw := hS.1 (P b % 10) (by omega) (by omega)
  have hT := hS.2.1
  have hbr := hS.2.2.1 b hb.1 hb.2
  have hlt := hS.lt (w := P b % 10) (by omega) (by omega) (by omega)
  refine CQ.of (own := 4) (n := 3) (ini := false) (rt := none) (cd := cd40) (by decide +kernel) rfl (by decide +kernel) rfl (Nat.le_of_ble_eq_true rfl) ?_
  refine RQ.seg 3 (pc' := 5) (L' := [some (.ref 51), some (.int (iI b)), none]) (st' := [.int (iI b), .ref 53]) (g1 := (HW (usc sc 5112 (sT S)) (usc (usc (usc (usc (usc (usc (usc (usc (usc (usc (usc ar 52 pl) 53 wi) 54 nx) 55 (sL S)) 56 (sF S)) 57 sh) 58 cl) 59 (sS S)) 60 (sA S)) 61 (sB S)) 62 (sC S)) tx oc rl ou tl, q)) rfl ?_
  refine RQ.ialdv (z := b) (v := (P b % 10)) rfl rfl rfl (by omega) (by decide) ((hwi b (by omega) (by omega)).trans ew.1) ?_
  refine RQ.seg 8 (pc' := 20) (L' := [some (.ref 51), some (.int (iI b)), some (.int (iI (P b % 10)))]) (st' := [.int (iI b), .ref 54, .int (iI (sT S)), .ref 60]) (g1 := (HW (usc sc 5112 (sT S)) (usc (usc (usc (usc (usc (usc (usc (usc (usc (usc (usc ar 52 pl) 53 wi) 54 nx) 55 (sL S)) 56 (sF S)) 57 sh) 58 cl) 59 (sS S)) 60 (sA S)) 61 (sB S)) 62 (sC S)) tx oc rl ou tl, q)) rfl ?_
  refine RQ.iald (z := b) rfl rfl rfl (by omega) (by decide) ?_
  refine RQ.iast (z := (sT S)) (v := (nx b)) (g1 := (HW (usc sc 5112 (sT S)) (usc (usc (usc (usc (usc (usc (usc (usc (usc (usc (usc ar 52 pl) 53 wi) 54 nx) 55 (sL S)) 56 (sF S)) 57 sh) 58 cl) 59 (sS S)) 60 (usz (sA S) (sT S) (nx b))) 61 (sB S)) 62 (sC S)) tx oc rl ou tl, q)) rfl rfl rfl rfl (by omega) (by decide) (HWa_60 (by funext j; unfold usc; cases hb : Nat.beq j 60 <;> first | rfl | (rw [Nat.eq_of_beq_eq_true hb]; rfl))) ?_
  refine RQ.seg 5 (pc' := 31) (L' := [some (.ref 51), some (.int (iI b)), some (.int (iI (P b % 10)))]) (st' := [.int (iI b), .int (iI (sT S)), .ref 61]) (g1 := (HW (usc sc 5112 (sT S)) (usc (usc (usc (usc (usc (usc (usc (usc (usc (usc (usc ar 52 pl) 53 wi) 54 nx) 55 (sL S)) 56 (sF S)) 57 sh) 58 cl) 59 (sS S)) 60 (usz (sA S) (sT S) (nx b))) 61 (sB S)) 62 (sC S)) tx oc rl ou tl, q)) rfl ?_
  refine RQ.iast (z := (sT S)) (v := b) (g1 := (HW (usc sc 5112 (sT S)) (usc (usc (usc (usc (usc (usc (usc (usc (usc (usc (usc ar 52 pl) 53 wi) 54 nx) 55 (sL S)) 56 (sF S)) 57 sh) 58 cl) 59 (sS S)) 60 (usz (sA S) (sT S) (nx b))) 61 (usz (sB S) (sT S) b)) 62 (sC S)) tx oc rl ou tl, q)) rfl rfl rfl rfl (by omega) (by decide) (HWa_61 (by funext j; unfold usc; cases hb : Nat.beq j 61 <;> first | rfl | (rw [Nat.eq_of_beq_eq_true hb]; rfl))) ?_
  refine RQ.seg 5 (pc' := 41) (L' := [some (.ref 51), some (.int (iI b)), some (.int (iI (P b % 10)))]) (st' := [.int (iI (P b % 10)), .int (iI (sT S)), .ref 62]) (g1 := (HW (usc sc 5112 (sT S)) (usc (usc (usc (usc (usc (usc (usc (usc (usc (usc (usc ar 52 pl) 53 wi) 54 nx) 55 (sL S)) 56 (sF S)) 57 sh) 58 cl) 59 (sS S)) 60 (usz (sA S) (sT S) (nx b))) 61 (usz (sB S) (sT S) b)) 62 (sC S)) tx oc rl ou tl, q)) rfl ?_
  refine RQ.iast (z := (sT S)) (v := (P b % 10)) (g1 := (HW (usc sc 5112 (sT S)) (usc (usc (usc (usc (usc (usc (usc (usc (usc (usc (usc ar 52 pl) 53 wi) 54 nx) 55 (sL S)) 56 (sF S)) 57 sh) 58 cl) 59 (sS S)) 60 (usz (sA S) (sT S) (nx b))) 61 (usz (sB S) (sT S) b)) 62 (usz (sC S) (sT S) (P b % 10))) tx oc rl ou tl, q)) rfl rfl rfl rfl (by omega) (by decide) (HWa_62 (by funext j; unfold usc; cases hb : Nat.beq j 62 <;> first | rfl | (rw [Nat.eq_of_beq_eq_true hb]; rfl))) ?_
  refine RQ.seg 5 (pc' := 49) (L' := [some (.ref 51), some (.int (iI b)), some (.int (iI (P b % 10)))]) (st' := [.int ((iI (sT S)) + (iI 1)), .ref 51]) (g1 := (HW (usc sc 5112 (sT S)) (usc (usc (usc (usc (usc (usc (usc (usc (usc (usc (usc ar 52 pl) 53 wi) 54 nx) 55 (sL S)) 56 (sF S)) 57 sh) 58 cl) 59 (sS S)) 60 (usz (sA S) (sT S) (nx b))) 61 (usz (sB S) (sT S) b)) 62 (usz (sC S) (sT S) (P b % 10))) tx oc rl ou tl, q)) rfl ?_
  refine RQ.to (L' := [some (.ref 51), some (.int (iI b)), some (.int (iI (P b % 10)))]) (st' := [.int (iI (sT S + 1)), .ref 51]) rfl (by simp only [iI_add, iI_sub, iI_mul, iI_neg]) ?_
  refine RQ.seg 4 (pc' := 57) (L' := [some (.ref 51), some (.int (iI b)), some (.int (iI (P b % 10)))]) (st' := [.int (iI (P b % 10)), .ref 56]) (g1 := (HW (usc sc 5112 (sT S + 1)) (usc (usc (usc (usc (usc (usc (usc (usc (usc (usc (usc ar 52 pl) 53 wi) 54 nx) 55 (sL S)) 56 (sF S)) 57 sh) 58 cl) 59 (sS S)) 60 (usz (sA S) (sT S) (nx b))) 61 (usz (sB S) (sT S) b)) 62 (usz (sC S) (sT S) (P b % 10))) tx oc rl ou tl, q)) rfl ?_
  refine RQ.iald (z := (P b % 10)) rfl rfl rfl (by omega) (by decide) ?_
  refine RQ.seg 1 (pc' := 59) (L' := [some (.ref 51), some (.int (iI b)), some (.int (iI (P b % 10)))]) (st' := [.int (iI (-1)), .int (iI ((sF S) (P b % 10)))]) (g1 := (HW (usc sc 5112 (sT S + 1)) (usc (usc (usc (usc (usc (usc (usc (usc (usc (usc (usc ar 52 pl) 53 wi) 54 nx) 55 (sL S)) 56 (sF S)) 57 sh) 58 cl) 59 (sS S)) 60 (usz (sA S) (sT S) (nx b))) 61 (usz (sB S) (sT S) b)) 62 (usz (sC S) (sT S) (P b % 10))) tx oc rl ou tl, q)) rfl ?_
  refine RQ.if2 (a := ((sF S) (P b % 10))) (b := (-1)) rfl rfl rfl rfl (by omega) (by omega) (fun (h1 : (sF S) (P b % 10) ≠ (-1)) => ?_) (fun (h1 : ¬ (sF S) (P b % 10) ≠ (-1)) => ?_)
  · skip
    refine RQ.seg 4 (pc' := 75) (L' := [some (.ref 51), some (.int (iI b)), some (.int (iI (P b % 10)))]) (st' := [.int (iI b), .ref 59, .int (iI b), .ref 59]) (g1 := (HW (usc sc 5112 (sT S + 1)) (usc (usc (usc (usc (usc (usc (usc (usc (usc (usc (usc ar 52 pl) 53 wi) 54 nx) 55 (sL S)) 56 (sF S)) 57 sh) 58 cl) 59 (sS S)) 60 (usz (sA S) (sT S) (nx b))) 61 (usz (sB S) (sT S) b)) 62 (usz (sC S) (sT S) (P b % 10))) tx oc rl ou tl, q)) rfl ?_
    refine RQ.iald (z := b) rfl rfl rfl (by omega) (by decide) ?_
    refine RQ.seg 2 (pc' := 78) (L' := [some (.ref 51), some (.int (iI b)), some (.int (iI (P b % 10)))]) (st' := [.int ((iI ((sS S) b)) + (iI 1)), .int (iI b), .ref 59]) (g1 := (HW (usc sc 5112 (sT S + 1)) (usc (usc (usc (usc (usc (usc (usc (usc (usc (usc (usc ar 52 pl) 53 wi) 54 nx) 55 (sL S)) 56 (sF S)) 57 sh) 58 cl) 59 (sS S)) 60 (usz (sA S) (sT S) (nx b))) 61 (usz (sB S) (sT S) b)) 62 (usz (sC S) (sT S) (P b % 10))) tx oc rl ou tl, q)) rfl ?_
    refine RQ.iast (z := b) (v := ((sS S) b + 1)) (g1 := (HW (usc sc 5112 (sT S + 1)) (usc (usc (usc (usc (usc (usc (usc (usc (usc (usc (usc ar 52 pl) 53 wi) 54 nx) 55 (sL S)) 56 (sF S)) 57 sh) 58 cl) 59 (usz (sS S) b ((sS S) b + 1))) 60 (usz (sA S) (sT S) (nx b))) 61 (usz (sB S) (sT S) b)) 62 (usz (sC S) (sT S) (P b % 10))) tx oc rl ou tl, q)) rfl rfl (by simp only [iI_add, iI_sub, iI_mul, iI_neg]) rfl (by omega) (by decide) (HWa_59 (by funext j; unfold usc; cases hb : Nat.beq j 59 <;> first | rfl | (rw [Nat.eq_of_beq_eq_true hb]; rfl))) ?_
    refine RQ.seg 4 (pc' := 85) (L' := [some (.ref 51), some (.int (iI b)), some (.int (iI (P b % 10)))]) (st' := [.int (iI (P b % 10)), .ref 55, .int (iI (P b % 10)), .ref 55]) (g1 := (HW (usc sc 5112 (sT S + 1)) (usc (usc (usc (usc (usc (usc (usc (usc (usc (usc (usc ar 52 pl) 53 wi) 54 nx) 55 (sL S)) 56 (sF S)) 57 sh) 58 cl) 59 (usz (sS S) b ((sS S) b + 1))) 60 (usz (sA S) (sT S) (nx b))) 61 (usz (sB S) (sT S) b)) 62 (usz (sC S) (sT S) (P b % 10))) tx oc rl ou tl, q)) rfl ?_
    refine RQ.iald (z := (P b % 10)) rfl rfl rfl (by omega) (by decide) ?_
    refine RQ.seg 2 (pc' := 88) (L' := [some (.ref 51), some (.int (iI b)), some (.int (iI (P b % 10)))]) (st' := [.int ((iI ((sL S) (P b % 10))) - (iI 1)), .int (iI (P b % 10)), .ref 55]) (g1 := (HW (usc sc 5112 (sT S + 1)) (usc (usc (usc (usc (usc (usc (usc (usc (usc (usc (usc ar 52 pl) 53 wi) 54 nx) 55 (sL S)) 56 (sF S)) 57 sh) 58 cl) 59 (usz (sS S) b ((sS S) b + 1))) 60 (usz (sA S) (sT S) (nx b))) 61 (usz (sB S) (sT S) b)) 62 (usz (sC S) (sT S) (P b % 10))) tx oc rl ou tl, q)) rfl ?_
    refine RQ.iast (z := (P b % 10)) (v := ((sL S) (P b % 10) - 1)) (g1 := (HW (usc sc 5112 (sT S + 1)) (usc (usc (usc (usc (usc (usc (usc (usc (usc (usc (usc ar 52 pl) 53 wi) 54 nx) 55 (usz (sL S) (P b % 10) ((sL S) (P b % 10) - 1))) 56 (sF S)) 57 sh) 58 cl) 59 (usz (sS S) b ((sS S) b + 1))) 60 (usz (sA S) (sT S) (nx b))) 61 (usz (sB S) (sT S) b)) 62 (usz (sC S) (sT S) (P b % 10))) tx oc rl ou tl, q)) rfl rfl (by simp only [iI_add, iI_sub, iI_mul, iI_neg]) rfl (by omega) (by decide) (HWa_55 (by funext j; unfold usc; cases hb : Nat.beq j 55 <;> first | rfl | (rw [Nat.eq_of_beq_eq_true hb]; rfl))) ?_
    refine RQ.seg 8 (pc' := 101) (L' := [some (.ref 51), some (.int (iI b)), some (.int (iI (P b % 10)))]) (st' := [.int (iI b), .ref 54, .int (iI (P b % 10)), .ref 51, .int (iI b), .ref 54]) (g1 := (HW (usc sc 5112 (sT S + 1)) (usc (usc (usc (usc (usc (usc (usc (usc (usc (usc (usc ar 52 pl) 53 wi) 54 nx) 55 (usz (sL S) (P b % 10) ((sL S) (P b % 10) - 1))) 56 (sF S)) 57 sh) 58 cl) 59 (usz (sS S) b ((sS S) b + 1))) 60 (usz (sA S) (sT S) (nx b))) 61 (usz (sB S) (sT S) b)) 62 (usz (sC S) (sT S) (P b % 10))) tx oc rl ou tl, q)) rfl ?_
    refine RQ.iald (z := b) rfl rfl rfl (by omega) (by decide) ?_
    refine RQ.seg 4 (pc' := 108) (L' := [some (.ref 51), some (.int (iI b)), some (.int (iI (P b % 10)))]) (st' := [.int (iI b), .ref 58, .int (iI 2), .int (iI (nx b)), .int (iI (P b % 10)), .ref 51, .int (iI b), .ref 54]) (g1 := (HW (usc sc 5112 (sT S + 1)) (usc (usc (usc (usc (usc (usc (usc (usc (usc (usc (usc ar 52 pl) 53 wi) 54 nx) 55 (usz (sL S) (P b % 10) ((sL S) (P b % 10) - 1))) 56 (sF S)) 57 sh) 58 cl) 59 (usz (sS S) b ((sS S) b + 1))) 60 (usz (sA S) (sT S) (nx b))) 61 (usz (sB S) (sT S) b)) 62 (usz (sC S) (sT S) (P b % 10))) tx oc rl ou tl, q)) rfl ?_
    refine RQ.ialdv (z := b) (v := (clb nb W B P b)) rfl rfl rfl (by omega) (by decide) (hcl b hb.1 hb.2 hbk) ?_
    refine RQ.seg 2 (pc' := 111) (L' := [some (.ref 51), some (.int (iI b)), some (.int (iI (P b % 10)))]) (st' := [.int ((iI (nx b)) + ((iI 2) * (iI (clb nb W B P b)))), .int (iI (P b % 10)), .ref 51, .int (iI b), .ref 54]) (g1 := (HW (usc sc 5112 (sT S + 1)) (usc (usc (usc (usc (usc (usc (usc (usc (usc (usc (usc ar 52 pl) 53 wi) 54 nx) 55 (usz (sL S) (P b % 10) ((sL S) (P b % 10) - 1))) 56 (sF S)) 57 sh) 58 cl) 59 (usz (sS S) b ((sS S) b + 1))) 60 (usz (sA S) (sT S) (nx b))) 61 (usz (sB S) (sT S) b)) 62 (usz (sC S) (sT S) (P b % 10))) tx oc rl ou tl, q)) rfl ?_
    refine RQ.to (L' := [some (.ref 51), some (.int (iI b)), some (.int (iI (P b % 10)))]) (st' := [.int (iI (nx b + (2 * (clb nb W B P b)))), .int (iI (P b % 10)), .ref 51, .int (iI b), .ref 54]) rfl (by simp only [iI_add, iI_sub, iI_mul, iI_neg]) ?_
    refine RQ.call rfl rfl (x_inTime (sc := usc sc 5112 (sT S + 1)) (ar := usc (usc (usc (usc (usc (usc (usc (usc (usc (usc (usc ar 52 pl) 53 wi) 54 nx) 55 (usz (sL S) (P b % 10) ((sL S) (P b % 10) - 1))) 56 (sF S)) 57 sh) 58 cl) 59 (usz (sS S) b ((sS S) b + 1))) 60 (usz (sA S) (sT S) (nx b))) 61 (usz (sB S) (sT S) b)) 62 (usz (sC S) (sT S) (P b % 10))) hF hX (w := P b % 10) (t := nx b + (2 * (clb nb W B P b))) (by omega) (by show 0 ≤ usz (sL S) (P b % 10) (sL S (P b % 10) - 1) (P b % 10) ∧ usz (sL S) (P b % 10) (sL S (P b % 10) - 1) (P b % 10) ≤ 9; rw [usz_s]; omega) (by omega)) ?_
    refine RQ.iast (z := b) (v := (itm W (usz (sL S) (P b % 10) ((sL S) (P b % 10) - 1)) (P b % 10) (nx b + (2 * (clb nb W B P b))))) (g1 := (HW (usc sc 5112 (sT S + 1)) (usc (usc (usc (usc (usc (usc (usc (usc (usc (usc (usc ar 52 pl) 53 wi) 54 (usz nx b (itm W (usz (sL S) (P b % 10) ((sL S) (P b % 10) - 1)) (P b % 10) (nx b + (2 * (clb nb W B P b)))))) 55 (usz (sL S) (P b % 10) ((sL S) (P b % 10) - 1))) 56 (sF S)) 57 sh) 58 cl) 59 (usz (sS S) b ((sS S) b + 1))) 60 (usz (sA S) (sT S) (nx b))) 61 (usz (sB S) (sT S) b)) 62 (usz (sC S) (sT S) (P b % 10))) tx oc rl ou tl, q)) rfl rfl rfl rfl (by omega) (by decide) (HWa_54 (by funext j; unfold usc; cases hb : Nat.beq j 54 <;> first | rfl | (rw [Nat.eq_of_beq_eq_true hb]; rfl))) ?_
    refine RQ.seg 3 (pc' := 120) (L' := [some (.ref 51), some (.int (iI b)), some (.int (iI (P b % 10)))]) (st' := [.int (iI (P b % 10)), .ref 55]) (g1 := (HW (usc sc 5112 (sT S + 1)) (usc (usc (usc (usc (usc (usc (usc (usc (usc (usc (usc ar 52 pl) 53 wi) 54 (usz nx b (itm W (usz (sL S) (P b % 10) ((sL S) (P b % 10) - 1)) (P b % 10) (nx b + (2 * (clb nb W B P b)))))) 55 (usz (sL S) (P b % 10) ((sL S) (P b % 10) - 1))) 56 (sF S)) 57 sh) 58 cl) 59 (usz (sS S) b ((sS S) b + 1))) 60 (usz (sA S) (sT S) (nx b))) 61 (usz (sB S) (sT S) b)) 62 (usz (sC S) (sT S) (P b % 10))) tx oc rl ou tl, q)) rfl ?_
    refine RQ.ialdv (z := (P b % 10)) (v := ((sL S) (P b % 10) - 1)) rfl rfl rfl (by omega) (by decide) (show (usz (sL S) (P b % 10) ((sL S) (P b % 10) - 1)) (P b % 10) = (sL S) (P b % 10) - 1 by rw [usz_s]) ?_
    refine RQ.if1 (a := ((sL S) (P b % 10) - 1)) rfl rfl rfl (by omega) (fun (h2 : (sL S) (P b % 10) - 1 ≠ 0) => ?_) (fun (h2 : ¬ (sL S) (P b % 10) - 1 ≠ 0) => ?_)
    · skip
      refine RQ.ret rfl rfl ?_
      refine ⟨rfl, usz nx b (itm W (usz (sL S) (P b % 10) ((sL S) (P b % 10) - 1)) (P b % 10) (nx b + (2 * (clb nb W B P b)))), ?_, fun j j0 j1 => ?_⟩
      · rw [vtk, vfi, if_neg (by omega)]; rfl
      · rw [nxu, if_neg (fun z => by omega)]; rfl
    · skip
      refine RQ.seg 2 (pc' := 126) (L' := [some (.ref 51), some (.int (iI b)), some (.int (iI (P b % 10)))]) (st' := [.int (iI (P b % 10)), .ref 51]) (g1 := (HW (usc sc 5112 (sT S + 1)) (usc (usc (usc (usc (usc (usc (usc (usc (usc (usc (usc ar 52 pl) 53 wi) 54 (usz nx b (itm W (usz (sL S) (P b % 10) ((sL S) (P b % 10) - 1)) (P b % 10) (nx b + (2 * (clb nb W B P b)))))) 55 (usz (sL S) (P b % 10) ((sL S) (P b % 10) - 1))) 56 (sF S)) 57 sh) 58 cl) 59 (usz (sS S) b ((sS S) b + 1))) 60 (usz (sA S) (sT S) (nx b))) 61 (usz (sB S) (sT S) b)) 62 (usz (sC S) (sT S) (P b % 10))) tx oc rl ou tl, q)) rfl ?_
      refine RQ.callQ rfl rfl (x_leave (sc := usc sc 5112 (sT S + 1)) (ar := usc (usc (usc (usc (usc (usc (usc (usc (usc (usc ar 52 pl) 53 wi) 55 (usz (sL S) (P b % 10) ((sL S) (P b % 10) - 1))) 56 (sF S)) 57 sh) 58 cl) 59 (usz (sS S) b ((sS S) b + 1))) 60 (usz (sA S) (sT S) (nx b))) 61 (usz (sB S) (sT S) b)) 62 (usz (sC S) (sT S) (P b % 10))) (nx := usz nx b (itm W (usz (sL S) (P b % 10) ((sL S) (P b % 10) - 1)) (P b % 10) (nx b + (2 * (clb nb W B P b))))) (wi := wi) (w := P b % 10) (fun j h0 h1 => rfl) (by omega) (fun j h0 h1 => by have e9 := xwi_r hmy hn.1 h0; rw [hwi j h0 h1]; omega)) (fun rv g1 hc => ?_)
      obtain ⟨rfl, nx2, rfl, hnx2⟩ := hc
      refine RQ.ret rfl rfl ?_
      refine ⟨rfl, nx2, ?_, fun j j0 j1 => ?_⟩
      · rw [vtk, vfi, if_neg (by omega)]; rfl
      · rw [hnx2 j j0 j1, hwi j j0 j1, nxu]
        by_cases e1 : xwi nb B P j = P b % 10
        · rw [if_pos e1, if_pos ⟨by omega, e1⟩]
        · have hjb : j ≠ b := fun z => e1 (by rw [z]; exact ew.1)
          rw [if_neg e1, if_neg (fun z => e1 z.2), if_neg hjb, usz_n hjb]
  · skip
    refine RQ.seg 4 (pc' := 68) (L' := [some (.ref 51), some (.int (iI b)), some (.int (iI (P b % 10)))]) (st' := [.int (iI b), .int (iI (P b % 10)), .ref 56]) (g1 := (HW (usc sc 5112 (sT S + 1)) (usc (usc (usc (usc (usc (usc (usc (usc (usc (usc (usc ar 52 pl) 53 wi) 54 nx) 55 (sL S)) 56 (sF S)) 57 sh) 58 cl) 59 (sS S)) 60 (usz (sA S) (sT S) (nx b))) 61 (usz (sB S) (sT S) b)) 62 (usz (sC S) (sT S) (P b % 10))) tx oc rl ou tl, q)) rfl ?_
    refine RQ.iast (z := (P b % 10)) (v := b) (g1 := (HW (usc sc 5112 (sT S + 1)) (usc (usc (usc (usc (usc (usc (usc (usc (usc (usc (usc ar 52 pl) 53 wi) 54 nx) 55 (sL S)) 56 (usz (sF S) (P b % 10) b)) 57 sh) 58 cl) 59 (sS S)) 60 (usz (sA S) (sT S) (nx b))) 61 (usz (sB S) (sT S) b)) 62 (usz (sC S) (sT S) (P b % 10))) tx oc rl ou tl, q)) rfl rfl rfl rfl (by omega) (by decide) (HWa_56 (by funext j; unfold usc; cases hb : Nat.beq j 56 <;> first | rfl | (rw [Nat.eq_of_beq_eq_true hb]; rfl))) ?_
    refine RQ.seg 4 (pc' := 75) (L' := [some (.ref 51), some (.int (iI b)), some (.int (iI (P b % 10)))]) (st' := [.int (iI b), .ref 59, .int (iI b), .ref 59]) (g1 := (HW (usc sc 5112 (sT S + 1)) (usc (usc (usc (usc (usc (usc (usc (usc (usc (usc (usc ar 52 pl) 53 wi) 54 nx) 55 (sL S)) 56 (usz (sF S) (P b % 10) b)) 57 sh) 58 cl) 59 (sS S)) 60 (usz (sA S) (sT S) (nx b))) 61 (usz (sB S) (sT S) b)) 62 (usz (sC S) (sT S) (P b % 10))) tx oc rl ou tl, q)) rfl ?_
    refine RQ.iald (z := b) rfl rfl rfl (by omega) (by decide) ?_
    refine RQ.seg 2 (pc' := 78) (L' := [some (.ref 51), some (.int (iI b)), some (.int (iI (P b % 10)))]) (st' := [.int ((iI ((sS S) b)) + (iI 1)), .int (iI b), .ref 59]) (g1 := (HW (usc sc 5112 (sT S + 1)) (usc (usc (usc (usc (usc (usc (usc (usc (usc (usc (usc ar 52 pl) 53 wi) 54 nx) 55 (sL S)) 56 (usz (sF S) (P b % 10) b)) 57 sh) 58 cl) 59 (sS S)) 60 (usz (sA S) (sT S) (nx b))) 61 (usz (sB S) (sT S) b)) 62 (usz (sC S) (sT S) (P b % 10))) tx oc rl ou tl, q)) rfl ?_
    refine RQ.iast (z := b) (v := ((sS S) b + 1)) (g1 := (HW (usc sc 5112 (sT S + 1)) (usc (usc (usc (usc (usc (usc (usc (usc (usc (usc (usc ar 52 pl) 53 wi) 54 nx) 55 (sL S)) 56 (usz (sF S) (P b % 10) b)) 57 sh) 58 cl) 59 (usz (sS S) b ((sS S) b + 1))) 60 (usz (sA S) (sT S) (nx b))) 61 (usz (sB S) (sT S) b)) 62 (usz (sC S) (sT S) (P b % 10))) tx oc rl ou tl, q)) rfl rfl (by simp only [iI_add, iI_sub, iI_mul, iI_neg]) rfl (by omega) (by decide) (HWa_59 (by funext j; unfold usc; cases hb : Nat.beq j 59 <;> first | rfl | (rw [Nat.eq_of_beq_eq_true hb]; rfl))) ?_
    refine RQ.seg 4 (pc' := 85) (L' := [some (.ref 51), some (.int (iI b)), some (.int (iI (P b % 10)))]) (st' := [.int (iI (P b % 10)), .ref 55, .int (iI (P b % 10)), .ref 55]) (g1 := (HW (usc sc 5112 (sT S + 1)) (usc (usc (usc (usc (usc (usc (usc (usc (usc (usc (usc ar 52 pl) 53 wi) 54 nx) 55 (sL S)) 56 (usz (sF S) (P b % 10) b)) 57 sh) 58 cl) 59 (usz (sS S) b ((sS S) b + 1))) 60 (usz (sA S) (sT S) (nx b))) 61 (usz (sB S) (sT S) b)) 62 (usz (sC S) (sT S) (P b % 10))) tx oc rl ou tl, q)) rfl ?_
    refine RQ.iald (z := (P b % 10)) rfl rfl rfl (by omega) (by decide) ?_
    refine RQ.seg 2 (pc' := 88) (L' := [some (.ref 51), some (.int (iI b)), some (.int (iI (P b % 10)))]) (st' := [.int ((iI ((sL S) (P b % 10))) - (iI 1)), .int (iI (P b % 10)), .ref 55]) (g1 := (HW (usc sc 5112 (sT S + 1)) (usc (usc (usc (usc (usc (usc (usc (usc (usc (usc (usc ar 52 pl) 53 wi) 54 nx) 55 (sL S)) 56 (usz (sF S) (P b % 10) b)) 57 sh) 58 cl) 59 (usz (sS S) b ((sS S) b + 1))) 60 (usz (sA S) (sT S) (nx b))) 61 (usz (sB S) (sT S) b)) 62 (usz (sC S) (sT S) (P b % 10))) tx oc rl ou tl, q)) rfl ?_
    refine RQ.iast (z := (P b % 10)) (v := ((sL S) (P b % 10) - 1)) (g1 := (HW (usc sc 5112 (sT S + 1)) (usc (usc (usc (usc (usc (usc (usc (usc (usc (usc (usc ar 52 pl) 53 wi) 54 nx) 55 (usz (sL S) (P b % 10) ((sL S) (P b % 10) - 1))) 56 (usz (sF S) (P b % 10) b)) 57 sh) 58 cl) 59 (usz (sS S) b ((sS S) b + 1))) 60 (usz (sA S) (sT S) (nx b))) 61 (usz (sB S) (sT S) b)) 62 (usz (sC S) (sT S) (P b % 10))) tx oc rl ou tl, q)) rfl rfl (by simp only [iI_add, iI_sub, iI_mul, iI_neg]) rfl (by omega) (by decide) (HWa_55 (by funext j; unfold usc; cases hb : Nat.beq j 55 <;> first | rfl | (rw [Nat.eq_of_beq_eq_true hb]; rfl))) ?_
    refine RQ.seg 8 (pc' := 101) (L' := [some (.ref 51), some (.int (iI b)), some (.int (iI (P b % 10)))]) (st' := [.int (iI b), .ref 54, .int (iI (P b % 10)), .ref 51, .int (iI b), .ref 54]) (g1 := (HW (usc sc 5112 (sT S + 1)) (usc (usc (usc (usc (usc (usc (usc (usc (usc (usc (usc ar 52 pl) 53 wi) 54 nx) 55 (usz (sL S) (P b % 10) ((sL S) (P b % 10) - 1))) 56 (usz (sF S) (P b % 10) b)) 57 sh) 58 cl) 59 (usz (sS S) b ((sS S) b + 1))) 60 (usz (sA S) (sT S) (nx b))) 61 (usz (sB S) (sT S) b)) 62 (usz (sC S) (sT S) (P b % 10))) tx oc rl ou tl, q)) rfl ?_
    refine RQ.iald (z := b) rfl rfl rfl (by omega) (by decide) ?_
    refine RQ.seg 4 (pc' := 108) (L' := [some (.ref 51), some (.int (iI b)), some (.int (iI (P b % 10)))]) (st' := [.int (iI b), .ref 58, .int (iI 2), .int (iI (nx b)), .int (iI (P b % 10)), .ref 51, .int (iI b), .ref 54]) (g1 := (HW (usc sc 5112 (sT S + 1)) (usc (usc (usc (usc (usc (usc (usc (usc (usc (usc (usc ar 52 pl) 53 wi) 54 nx) 55 (usz (sL S) (P b % 10) ((sL S) (P b % 10) - 1))) 56 (usz (sF S) (P b % 10) b)) 57 sh) 58 cl) 59 (usz (sS S) b ((sS S) b + 1))) 60 (usz (sA S) (sT S) (nx b))) 61 (usz (sB S) (sT S) b)) 62 (usz (sC S) (sT S) (P b % 10))) tx oc rl ou tl, q)) rfl ?_
    refine RQ.ialdv (z := b) (v := (clb nb W B P b)) rfl rfl rfl (by omega) (by decide) (hcl b hb.1 hb.2 hbk) ?_
    refine RQ.seg 2 (pc' := 111) (L' := [some (.ref 51), some (.int (iI b)), some (.int (iI (P b % 10)))]) (st' := [.int ((iI (nx b)) + ((iI 2) * (iI (clb nb W B P b)))), .int (iI (P b % 10)), .ref 51, .int (iI b), .ref 54]) (g1 := (HW (usc sc 5112 (sT S + 1)) (usc (usc (usc (usc (usc (usc (usc (usc (usc (usc (usc ar 52 pl) 53 wi) 54 nx) 55 (usz (sL S) (P b % 10) ((sL S) (P b % 10) - 1))) 56 (usz (sF S) (P b % 10) b)) 57 sh) 58 cl) 59 (usz (sS S) b ((sS S) b + 1))) 60 (usz (sA S) (sT S) (nx b))) 61 (usz (sB S) (sT S) b)) 62 (usz (sC S) (sT S) (P b % 10))) tx oc rl ou tl, q)) rfl ?_
    refine RQ.to (L' := [some (.ref 51), some (.int (iI b)), some (.int (iI (P b % 10)))]) (st' := [.int (iI (nx b + (2 * (clb nb W B P b)))), .int (iI (P b % 10)), .ref 51, .int (iI b), .ref 54]) rfl (by simp only [iI_add, iI_sub, iI_mul, iI_neg]) ?_
    refine RQ.call rfl rfl (x_inTime (sc := usc sc 5112 (sT S + 1)) (ar := usc (usc (usc (usc (usc (usc (usc (usc (usc (usc (usc ar 52 pl) 53 wi) 54 nx) 55 (usz (sL S) (P b % 10) ((sL S) (P b % 10) - 1))) 56 (usz (sF S) (P b % 10) b)) 57 sh) 58 cl) 59 (usz (sS S) b ((sS S) b + 1))) 60 (usz (sA S) (sT S) (nx b))) 61 (usz (sB S) (sT S) b)) 62 (usz (sC S) (sT S) (P b % 10))) hF hX (w := P b % 10) (t := nx b + (2 * (clb nb W B P b))) (by omega) (by show 0 ≤ usz (sL S) (P b % 10) (sL S (P b % 10) - 1) (P b % 10) ∧ usz (sL S) (P b % 10) (sL S (P b % 10) - 1) (P b % 10) ≤ 9; rw [usz_s]; omega) (by omega)) ?_
    refine RQ.iast (z := b) (v := (itm W (usz (sL S) (P b % 10) ((sL S) (P b % 10) - 1)) (P b % 10) (nx b + (2 * (clb nb W B P b))))) (g1 := (HW (usc sc 5112 (sT S + 1)) (usc (usc (usc (usc (usc (usc (usc (usc (usc (usc (usc ar 52 pl) 53 wi) 54 (usz nx b (itm W (usz (sL S) (P b % 10) ((sL S) (P b % 10) - 1)) (P b % 10) (nx b + (2 * (clb nb W B P b)))))) 55 (usz (sL S) (P b % 10) ((sL S) (P b % 10) - 1))) 56 (usz (sF S) (P b % 10) b)) 57 sh) 58 cl) 59 (usz (sS S) b ((sS S) b + 1))) 60 (usz (sA S) (sT S) (nx b))) 61 (usz (sB S) (sT S) b)) 62 (usz (sC S) (sT S) (P b % 10))) tx oc rl ou tl, q)) rfl rfl rfl rfl (by omega) (by decide) (HWa_54 (by funext j; unfold usc; cases hb : Nat.beq j 54 <;> first | rfl | (rw [Nat.eq_of_beq_eq_true hb]; rfl))) ?_
    refine RQ.seg 3 (pc' := 120) (L' := [some (.ref 51), some (.int (iI b)), some (.int (iI (P b % 10)))]) (st' := [.int (iI (P b % 10)), .ref 55]) (g1 := (HW (usc sc 5112 (sT S + 1)) (usc (usc (usc (usc (usc (usc (usc (usc (usc (usc (usc ar 52 pl) 53 wi) 54 (usz nx b (itm W (usz (sL S) (P b % 10) ((sL S) (P b % 10) - 1)) (P b % 10) (nx b + (2 * (clb nb W B P b)))))) 55 (usz (sL S) (P b % 10) ((sL S) (P b % 10) - 1))) 56 (usz (sF S) (P b % 10) b)) 57 sh) 58 cl) 59 (usz (sS S) b ((sS S) b + 1))) 60 (usz (sA S) (sT S) (nx b))) 61 (usz (sB S) (sT S) b)) 62 (usz (sC S) (sT S) (P b % 10))) tx oc rl ou tl, q)) rfl ?_
    refine RQ.ialdv (z := (P b % 10)) (v := ((sL S) (P b % 10) - 1)) rfl rfl rfl (by omega) (by decide) (show (usz (sL S) (P b % 10) ((sL S) (P b % 10) - 1)) (P b % 10) = (sL S) (P b % 10) - 1 by rw [usz_s]) ?_
    refine RQ.if1 (a := ((sL S) (P b % 10) - 1)) rfl rfl rfl (by omega) (fun (h3 : (sL S) (P b % 10) - 1 ≠ 0) => ?_) (fun (h3 : ¬ (sL S) (P b % 10) - 1 ≠ 0) => ?_)
    · skip
      refine RQ.ret rfl rfl ?_
      refine ⟨rfl, usz nx b (itm W (usz (sL S) (P b % 10) ((sL S) (P b % 10) - 1)) (P b % 10) (nx b + (2 * (clb nb W B P b)))), ?_, fun j j0 j1 => ?_⟩
      · rw [vtk, vfi, if_pos (by omega)]; rfl
      · rw [nxu, if_neg (fun z => by omega)]; rfl
    · skip
      refine RQ.seg 2 (pc' := 126) (L' := [some (.ref 51), some (.int (iI b)), some (.int (iI (P b % 10)))]) (st' := [.int (iI (P b % 10)), .ref 51]) (g1 := (HW (usc sc 5112 (sT S + 1)) (usc (usc (usc (usc (usc (usc (usc (usc (usc (usc (usc ar 52 pl) 53 wi) 54 (usz nx b (itm W (usz (sL S) (P b % 10) ((sL S) (P b % 10) - 1)) (P b % 10) (nx b + (2 * (clb nb W B P b)))))) 55 (usz (sL S) (P b % 10) ((sL S) (P b % 10) - 1))) 56 (usz (sF S) (P b % 10) b)) 57 sh) 58 cl) 59 (usz (sS S) b ((sS S) b + 1))) 60 (usz (sA S) (sT S) (nx b))) 61 (usz (sB S) (sT S) b)) 62 (usz (sC S) (sT S) (P b % 10))) tx oc rl ou tl, q)) rfl ?_
      refine RQ.callQ rfl rfl (x_leave (sc := usc sc 5112 (sT S + 1)) (ar := usc (usc (usc (usc (usc (usc (usc (usc (usc (usc ar 52 pl) 53 wi) 55 (usz (sL S) (P b % 10) ((sL S) (P b % 10) - 1))) 56 (usz (sF S) (P b % 10) b)) 57 sh) 58 cl) 59 (usz (sS S) b ((sS S) b + 1))) 60 (usz (sA S) (sT S) (nx b))) 61 (usz (sB S) (sT S) b)) 62 (usz (sC S) (sT S) (P b % 10))) (nx := usz nx b (itm W (usz (sL S) (P b % 10) ((sL S) (P b % 10) - 1)) (P b % 10) (nx b + (2 * (clb nb W B P b))))) (wi := wi) (w := P b % 10) (fun j h0 h1 => rfl) (by omega) (fun j h0 h1 => by have e9 := xwi_r hmy hn.1 h0; rw [hwi j h0 h1]; omega)) (fun rv g1 hc => ?_)
      obtain ⟨rfl, nx2, rfl, hnx2⟩ := hc
      refine RQ.ret rfl rfl ?_
      refine ⟨rfl, nx2, ?_, fun j j0 j1 => ?_⟩
      · rw [vtk, vfi, if_pos (by omega)]; rfl
      · rw [hnx2 j j0 j1, hwi j j0 j1, nxu]
        by_cases e1 : xwi nb B P j = P b % 10
        · rw [if_pos e1, if_pos ⟨by omega, e1⟩]
        · have hjb : j ≠ b := fun z => e1 (by rw [z]; exact ew.1)
          rw [if_neg e1, if_neg (fun z => e1 z.2), if_neg hjb, usz_n hjb]
theorem x_bv_w {K : PK} {d : Nat} {sc : Nat → Int} {ar : Nat → Int → Int} {tx oc : Nat} {rl : Nat → Option Nat} {ou : Nat → Int64} {tl : List PO} {q : Nat × Nat} {Q : Option Value → PG → Prop} {pl wi sh : Int → Int} {e2 : Option Value} {nw nb : Int} {W B : Int → Int → Int} (hF : FrOK nw nb W B) (hX : FrX (sc 303) (sc 304) (ar 5) (ar 6) (ar 7) (ar 8) (ar 10) (ar 11) (ar 12) nw nb W B) : ∀ (m : Nat) (w : Int) (l f : Int → Int) (hw : 0 ≤ w ∧ w + m = nw) (hl : ∀ j, 0 ≤ j → j < w → l j = W j 2 ∧ f j = -1) (hk : ∀ (l' f' : Int → Int), (∀ j, 0 ≤ j → j < nw → l' j = W j 2 ∧ f' j = -1) → RQ K (d + 1) 4 false none cd37 48 [some (.ref 51), some (.int (iI nw)), e2] [] (HW (usc sc 5112 0) (usc (usc (usc (usc (usc ar 52 pl) 53 wi) 55 l') 56 f') 57 sh) tx oc rl ou tl, q) Q), RQ K (d + 1) 4 false none cd37 7 [some (.ref 51), some (.int (iI w)), e2] [] (HW (usc sc 5112 0) (usc (usc (usc (usc (usc ar 52 pl) 53 wi) 55 l) 56 f) 57 sh) tx oc rl ou tl, q) Q
  | 0, w, l, f, hw, hl, hk => by
    have hn := hF.1
    have hm1 := hX.1
    have hm2 := hX.2.1
    refine RQ.seg 4 (pc' := 15) (L' := [some (.ref 51), some (.int (iI w)), e2]) (st' := [.int (iI (sc 303)), .int (iI w)]) (g1 := (HW (usc sc 5112 0) (usc (usc (usc (usc (usc ar 52 pl) 53 wi) 55 l) 56 f) 57 sh) tx oc rl ou tl, q)) rfl ?_
    refine RQ.if2 (a := w) (b := (sc 303)) rfl rfl rfl rfl (by omega) (by omega) (fun _ => ?_) (fun (q : ¬ sc 303 ≤ w) => absurd (show sc 303 ≤ w from by omega) q)
    obtain rfl : w = nw := by omega
    exact hk l f hl
  | m + 1, w, l, f, hw, hl, hk => by
    have hn := hF.1
    have hm1 := hX.1
    have hm2 := hX.2.1
    refine RQ.seg 4 (pc' := 15) (L' := [some (.ref 51), some (.int (iI w)), e2]) (st' := [.int (iI (sc 303)), .int (iI w)]) (g1 := (HW (usc sc 5112 0) (usc (usc (usc (usc (usc ar 52 pl) 53 wi) 55 l) 56 f) 57 sh) tx oc rl ou tl, q)) rfl ?_
    refine RQ.if2 (a := w) (b := (sc 303)) rfl rfl rfl rfl (by omega) (by omega) (fun (q : sc 303 ≤ w) => absurd q (show ¬ sc 303 ≤ w from by omega)) (fun _ => ?_)
    refine RQ.seg 7 (pc' := 31) (L' := [some (.ref 51), some (.int (iI w)), e2]) (st' := [.int (iI w), .ref 4, .int (iI w), .ref 55]) (g1 := (HW (usc sc 5112 0) (usc (usc (usc (usc (usc ar 52 pl) 53 wi) 55 l) 56 f) 57 sh) tx oc rl ou tl, q)) rfl ?_
    refine RQ.aald (z := w) rfl rfl rfl (by omega) (by decide) ?_
    refine RQ.seg 1 (pc' := 33) (L' := [some (.ref 51), some (.int (iI w)), e2]) (st' := [.int (iI 2), .ref (5 + w.toNat), .int (iI w), .ref 55]) (g1 := (HW (usc sc 5112 0) (usc (usc (usc (usc (usc ar 52 pl) 53 wi) 55 l) 56 f) 57 sh) tx oc rl ou tl, q)) rfl ?_
    have hf1 := hF.2.1 w (by omega) (by omega)
    refine RQ.ialdv (z := 2) (v := (W w 2)) rfl rfl (HW_r4 (by omega)) (by omega) (by decide) (frx_w (j := 2) hX (by omega) (by omega) (by omega) (by omega) hF.1.2.1) ?_
    refine RQ.iast (z := w) (v := (W w 2)) (g1 := (HW (usc sc 5112 0) (usc (usc (usc (usc (usc ar 52 pl) 53 wi) 55 (usz l w (W w 2))) 56 f) 57 sh) tx oc rl ou tl, q)) rfl rfl rfl rfl (by omega) (by decide) (HWa_55 (by funext j; unfold usc; cases hb : Nat.beq j 55 <;> first | rfl | (rw [Nat.eq_of_beq_eq_true hb]; rfl))) ?_
    refine RQ.seg 4 (pc' := 41) (L' := [some (.ref 51), some (.int (iI w)), e2]) (st' := [.int (iI (-1)), .int (iI w), .ref 56]) (g1 := (HW (usc sc 5112 0) (usc (usc (usc (usc (usc ar 52 pl) 53 wi) 55 (usz l w (W w 2))) 56 f) 57 sh) tx oc rl ou tl, q)) rfl ?_
    refine RQ.iast (z := w) (v := (-1)) (g1 := (HW (usc sc 5112 0) (usc (usc (usc (usc (usc ar 52 pl) 53 wi) 55 (usz l w (W w 2))) 56 (usz f w (-1))) 57 sh) tx oc rl ou tl, q)) rfl rfl rfl rfl (by omega) (by decide) (HWa_56 (by funext j; unfold usc; cases hb : Nat.beq j 56 <;> first | rfl | (rw [Nat.eq_of_beq_eq_true hb]; rfl))) ?_
    refine RQ.seg 2 (pc' := 7) (L' := [some (.ref 51), some (.int ((iI w) + (iI 1))), e2]) (st' := []) (g1 := (HW (usc sc 5112 0) (usc (usc (usc (usc (usc ar 52 pl) 53 wi) 55 (usz l w (W w 2))) 56 (usz f w (-1))) 57 sh) tx oc rl ou tl, q)) rfl ?_
    refine RQ.to (L' := [some (.ref 51), some (.int (iI (w + 1))), e2]) (st' := []) (by simp only [iI_add, iI_sub, iI_mul, iI_neg]) rfl ?_
    refine x_bv_w hF hX m (w + 1) _ _ (by omega) (fun j h0 h1 => ?_) hk
    by_cases e : j = w
    · subst e; exact ⟨usz_s _ _ _, usz_s _ _ _⟩
    · rw [usz_n e, usz_n e]; exact hl j h0 (by omega)
theorem x_bv_b {K : PK} {d : Nat} {sc : Nat → Int} {ar : Nat → Int → Int} {tx oc : Nat} {rl : Nat → Option Nat} {ou : Nat → Int64} {tl : List PO} {q : Nat × Nat} {l f pl wi sh : Int → Int} {nw nb : Int} {W B : Int → Int → Int} (hF : FrOK nw nb W B) (hX : FrX (sc 303) (sc 304) (ar 5) (ar 6) (ar 7) (ar 8) (ar 10) (ar 11) (ar 12) nw nb W B) {P : Int → Int} (hmy : PtOK nw nb W B P) (hwi : ∀ j, 0 ≤ j → j < 3 → wi j = xwi nb B P j) (hsh : ∀ j, 0 ≤ j → j < 3 → sh j = if j < nb then shk nb W B P j else 0) (hl : ∀ j, 0 ≤ j → j < nw → l j = W j 2 ∧ f j = -1) : ∀ (m n : Nat) (nx cl sv : Int → Int) (e2 : Option Value) (hm : (n : Int) + m = 3) (hi : (∀ j, 0 ≤ j → j < (n : Int) → sv j = 0 ∧ nx j = nx0 nb W B P l j ∧ (j < nb → bkv nb B P j = 0 → cl j = clb nb W B P j))), RQ K (d + 1) 4 false none cd37 50 [some (.ref 51), some (.int (iI (n : Int))), e2] [] (HW (usc sc 5112 0) (usc (usc (usc (usc (usc (usc (usc (usc ar 52 pl) 53 wi) 54 nx) 55 l) 56 f) 57 sh) 58 cl) 59 sv) tx oc rl ou tl, q) (fun r g' => r = none ∧ ∃ (S : SV) (nx cl : Int → Int), g' = (HW (usc sc 5112 (sT S)) (usc (usc (usc (usc (usc (usc (usc (usc (usc (usc (usc ar 52 pl) 53 wi) 54 nx) 55 (sL S)) 56 (sF S)) 57 sh) 58 cl) 59 (sS S)) 60 (sA S)) 61 (sB S)) 62 (sC S)) tx oc rl ou tl, q) ∧ SIn nw nb W S ∧ (∀ j, 0 ≤ j → j < 3 → nx j = nx0 nb W B P (sL S) j) ∧ (∀ j, 0 ≤ j → j < nb → bkv nb B P j = 0 → cl j = clb nb W B P j))
  | 0, n, nx, cl, sv, e2, hm, hi => by
    have hn := hF.1
    have hm1 := hX.1
    have hm2 := hX.2.1
    refine RQ.seg 2 (pc' := 52) (L' := [some (.ref 51), some (.int (iI (n : Int))), e2]) (st' := [.int (iI 3), .int (iI (n : Int))]) (g1 := (HW (usc sc 5112 0) (usc (usc (usc (usc (usc (usc (usc (usc ar 52 pl) 53 wi) 54 nx) 55 l) 56 f) 57 sh) 58 cl) 59 sv) tx oc rl ou tl, q)) rfl ?_
    refine RQ.if2 (a := (n : Int)) (b := 3) rfl rfl rfl rfl (by omega) (by omega) (fun _ => ?_) (fun (q : ¬ 3 ≤ (n : Int)) => absurd (show 3 ≤ (n : Int) from by omega) q)
    obtain rfl : n = 3 := by omega
    refine RQ.hp (g1 := (HW (usc sc 5112 0) (usc (usc (usc (usc (usc (usc (usc (usc (usc ar 52 pl) 53 wi) 54 nx) 55 l) 56 f) 57 sh) 58 cl) 59 sv) 60 (ar 60)) tx oc rl ou tl, q)) (congrArg (fun a => (HW (usc sc 5112 0) a tx oc rl ou tl, q)) (show usc (usc (usc (usc (usc (usc (usc (usc ar 52 pl) 53 wi) 54 nx) 55 l) 56 f) 57 sh) 58 cl) 59 sv = usc (usc (usc (usc (usc (usc (usc (usc (usc ar 52 pl) 53 wi) 54 nx) 55 l) 56 f) 57 sh) 58 cl) 59 sv) 60 (ar 60) by funext j; unfold usc; cases hb : Nat.beq j 60 <;> first | rfl | (rw [Nat.eq_of_beq_eq_true hb]; rfl))) ?_
    refine RQ.hp (g1 := (HW (usc sc 5112 0) (usc (usc (usc (usc (usc (usc (usc (usc (usc (usc ar 52 pl) 53 wi) 54 nx) 55 l) 56 f) 57 sh) 58 cl) 59 sv) 60 (ar 60)) 61 (ar 61)) tx oc rl ou tl, q)) (congrArg (fun a => (HW (usc sc 5112 0) a tx oc rl ou tl, q)) (show usc (usc (usc (usc (usc (usc (usc (usc (usc ar 52 pl) 53 wi) 54 nx) 55 l) 56 f) 57 sh) 58 cl) 59 sv) 60 (ar 60) = usc (usc (usc (usc (usc (usc (usc (usc (usc (usc ar 52 pl) 53 wi) 54 nx) 55 l) 56 f) 57 sh) 58 cl) 59 sv) 60 (ar 60)) 61 (ar 61) by funext j; unfold usc; cases hb : Nat.beq j 61 <;> first | rfl | (rw [Nat.eq_of_beq_eq_true hb]; rfl))) ?_
    refine RQ.hp (g1 := (HW (usc sc 5112 0) (usc (usc (usc (usc (usc (usc (usc (usc (usc (usc (usc ar 52 pl) 53 wi) 54 nx) 55 l) 56 f) 57 sh) 58 cl) 59 sv) 60 (ar 60)) 61 (ar 61)) 62 (ar 62)) tx oc rl ou tl, q)) (congrArg (fun a => (HW (usc sc 5112 0) a tx oc rl ou tl, q)) (show usc (usc (usc (usc (usc (usc (usc (usc (usc (usc ar 52 pl) 53 wi) 54 nx) 55 l) 56 f) 57 sh) 58 cl) 59 sv) 60 (ar 60)) 61 (ar 61) = usc (usc (usc (usc (usc (usc (usc (usc (usc (usc (usc ar 52 pl) 53 wi) 54 nx) 55 l) 56 f) 57 sh) 58 cl) 59 sv) 60 (ar 60)) 61 (ar 61)) 62 (ar 62) by funext j; unfold usc; cases hb : Nat.beq j 62 <;> first | rfl | (rw [Nat.eq_of_beq_eq_true hb]; rfl))) ?_
    refine RQ.ret rfl rfl ?_
    exact ⟨rfl, (l, sv, fun _ => 0, f, 0, ar 60, ar 61, ar 62), nx, cl, rfl, ⟨hl, rfl, fun b h0 h1 => (hi b h0 (by omega)).1, fun k h0 h1 => rfl⟩, fun j h0 h1 => (hi j h0 h1).2.1, fun j h0 h1 => (hi j h0 (by omega)).2.2 h1⟩
  | m + 1, n, nx, cl, sv, e2, hm, hi => by
    have hn := hF.1
    have hm1 := hX.1
    have hm2 := hX.2.1
    have hwr := xwi_r hmy hn.1 (j := (n : Int)) (by omega)
    refine RQ.seg 2 (pc' := 52) (L' := [some (.ref 51), some (.int (iI (n : Int))), e2]) (st' := [.int (iI 3), .int (iI (n : Int))]) (g1 := (HW (usc sc 5112 0) (usc (usc (usc (usc (usc (usc (usc (usc ar 52 pl) 53 wi) 54 nx) 55 l) 56 f) 57 sh) 58 cl) 59 sv) tx oc rl ou tl, q)) rfl ?_
    refine RQ.if2 (a := (n : Int)) (b := 3) rfl rfl rfl rfl (by omega) (by omega) (fun (q : 3 ≤ (n : Int)) => absurd q (show ¬ 3 ≤ (n : Int) from by omega)) (fun _ => ?_)
    refine RQ.seg 4 (pc' := 61) (L' := [some (.ref 51), some (.int (iI (n : Int))), e2]) (st' := [.int (iI 0), .int (iI (n : Int)), .ref 59]) (g1 := (HW (usc sc 5112 0) (usc (usc (usc (usc (usc (usc (usc (usc ar 52 pl) 53 wi) 54 nx) 55 l) 56 f) 57 sh) 58 cl) 59 sv) tx oc rl ou tl, q)) rfl ?_
    refine RQ.iast (z := (n : Int)) (v := 0) (g1 := (HW (usc sc 5112 0) (usc (usc (usc (usc (usc (usc (usc (usc ar 52 pl) 53 wi) 54 nx) 55 l) 56 f) 57 sh) 58 cl) 59 (usz sv (n : Int) 0)) tx oc rl ou tl, q)) rfl rfl rfl rfl (by omega) (by decide) (HWa_59 (by funext j; unfold usc; cases hb : Nat.beq j 59 <;> first | rfl | (rw [Nat.eq_of_beq_eq_true hb]; rfl))) ?_
    refine RQ.seg 4 (pc' := 70) (L' := [some (.ref 51), some (.int (iI (n : Int))), e2]) (st' := [.int (iI 1000), .int (iI (n : Int)), .ref 54]) (g1 := (HW (usc sc 5112 0) (usc (usc (usc (usc (usc (usc (usc (usc ar 52 pl) 53 wi) 54 nx) 55 l) 56 f) 57 sh) 58 cl) 59 (usz sv (n : Int) 0)) tx oc rl ou tl, q)) rfl ?_
    refine RQ.iast (z := (n : Int)) (v := 1000) (g1 := (HW (usc sc 5112 0) (usc (usc (usc (usc (usc (usc (usc (usc ar 52 pl) 53 wi) 54 (usz nx (n : Int) 1000)) 55 l) 56 f) 57 sh) 58 cl) 59 (usz sv (n : Int) 0)) tx oc rl ou tl, q)) rfl rfl rfl rfl (by omega) (by decide) (HWa_54 (by funext j; unfold usc; cases hb : Nat.beq j 54 <;> first | rfl | (rw [Nat.eq_of_beq_eq_true hb]; rfl))) ?_
    refine RQ.seg 3 (pc' := 76) (L' := [some (.ref 51), some (.int (iI (n : Int))), e2]) (st' := [.int (iI (n : Int)), .ref 53]) (g1 := (HW (usc sc 5112 0) (usc (usc (usc (usc (usc (usc (usc (usc ar 52 pl) 53 wi) 54 (usz nx (n : Int) 1000)) 55 l) 56 f) 57 sh) 58 cl) 59 (usz sv (n : Int) 0)) tx oc rl ou tl, q)) rfl ?_
    refine RQ.ialdv (z := (n : Int)) (v := (xwi nb B P (n : Int))) rfl rfl rfl (by omega) (by decide) (hwi (n : Int) (by omega) (by omega)) ?_
    refine RQ.seg 1 (pc' := 78) (L' := [some (.ref 51), some (.int (iI (n : Int))), e2]) (st' := [.int (iI (-1)), .int (iI (xwi nb B P (n : Int)))]) (g1 := (HW (usc sc 5112 0) (usc (usc (usc (usc (usc (usc (usc (usc ar 52 pl) 53 wi) 54 (usz nx (n : Int) 1000)) 55 l) 56 f) 57 sh) 58 cl) 59 (usz sv (n : Int) 0)) tx oc rl ou tl, q)) rfl ?_
    refine RQ.if2 (a := (xwi nb B P (n : Int))) (b := (-1)) rfl rfl rfl rfl (by omega) (by omega) (fun (h2 : xwi nb B P (n : Int) = (-1)) => ?_) (fun (h2 : ¬ xwi nb B P (n : Int) = (-1)) => ?_)
    · skip
      refine RQ.seg 2 (pc' := 50) (L' := [some (.ref 51), some (.int ((iI (n : Int)) + (iI 1))), e2]) (st' := []) (g1 := (HW (usc sc 5112 0) (usc (usc (usc (usc (usc (usc (usc (usc ar 52 pl) 53 wi) 54 (usz nx (n : Int) 1000)) 55 l) 56 f) 57 sh) 58 cl) 59 (usz sv (n : Int) 0)) tx oc rl ou tl, q)) rfl ?_
      refine RQ.to (L' := [some (.ref 51), some (.int (iI ((n : Int) + 1))), e2]) (st' := []) (by simp only [iI_add, iI_sub, iI_mul, iI_neg]) rfl ?_
      refine x_bv_b hF hX hmy hwi hsh hl m (n + 1) _ _ _ _ (by omega) (fun j h0 h1 => ?_)
      by_cases e : j = (n : Int)
      · subst e; refine ⟨usz_s _ _ _, ?_, fun h2 h3 => ?_⟩
        · rw [usz_s, nx0, if_neg (fun z => ?_)]
          have e1 := xwi_t z.1 z.2; omega
        · have e1 := xwi_t h2 h3; have e2 := hmy.w h0 h2 h3; omega
      · have e3 := hi j h0 (by omega)
        refine ⟨by rw [usz_n e]; exact e3.1, by (repeat rw [usz_n e]); exact e3.2.1, fun h2 h3 => by (try rw [usz_n e]); exact e3.2.2 h2 h3⟩
    · skip
      obtain ⟨qa, ka, ew⟩ := hwr.2.2.2.2 h2
      clear hwr
      have hpw := hmy.w (b := (n : Int)) (by omega) qa ka
      have hc := clb_r hF hmy (b := (n : Int)) (by omega) qa ka
      have hcd : clb nb W B P (n : Int) = B (n : Int) 2 * W (P (n : Int) % 10) 1 * (shk nb W B P (n : Int) + 1) := rfl
      have hlw := hl (P (n : Int) % 10) (by omega) (by omega)
      have hww := hF.2.1 (P (n : Int) % 10) (by omega) (by omega)
      have hbb := hF.2.2 (n : Int) (by omega) qa
      refine RQ.seg 4 (pc' := 89) (L' := [some (.ref 51), some (.int (iI (n : Int))), e2]) (st' := [.int (iI (n : Int)), .ref 9]) (g1 := (HW (usc sc 5112 0) (usc (usc (usc (usc (usc (usc (usc (usc ar 52 pl) 53 wi) 54 (usz nx (n : Int) 1000)) 55 l) 56 f) 57 sh) 58 cl) 59 (usz sv (n : Int) 0)) tx oc rl ou tl, q)) rfl ?_
      refine RQ.aald (z := (n : Int)) rfl rfl rfl (by omega) (by decide) ?_
      refine RQ.seg 6 (pc' := 98) (L' := [some (.ref 51), some (.int (iI (n : Int))), some (.ref (10 + ((n : Int)).toNat))]) (st' := [.int (iI 2), .ref (10 + ((n : Int)).toNat), .int (iI (n : Int)), .ref 58]) (g1 := (HW (usc sc 5112 0) (usc (usc (usc (usc (usc (usc (usc (usc ar 52 pl) 53 wi) 54 (usz nx (n : Int) 1000)) 55 l) 56 f) 57 sh) 58 cl) 59 (usz sv (n : Int) 0)) tx oc rl ou tl, q)) rfl ?_
      have hf1 := hF.2.2 (n : Int) (by omega) (by omega)
      refine RQ.ialdv (z := 2) (v := (B (n : Int) 2)) rfl rfl (HW_r9 (by omega)) (by omega) (by decide) (frx_b (j := 2) hX (by omega) (by omega) (by omega) (by omega) hF.1.2.2.2) ?_
      refine RQ.seg 6 (pc' := 111) (L' := [some (.ref 51), some (.int (iI (n : Int))), some (.ref (10 + ((n : Int)).toNat))]) (st' := [.int (iI (n : Int)), .ref 53, .ref 4, .int (iI (B (n : Int) 2)), .int (iI (n : Int)), .ref 58]) (g1 := (HW (usc sc 5112 0) (usc (usc (usc (usc (usc (usc (usc (usc ar 52 pl) 53 wi) 54 (usz nx (n : Int) 1000)) 55 l) 56 f) 57 sh) 58 cl) 59 (usz sv (n : Int) 0)) tx oc rl ou tl, q)) rfl ?_
      refine RQ.ialdv (z := (n : Int)) (v := (P (n : Int) % 10)) rfl rfl rfl (by omega) (by decide) ((hwi (n : Int) (by omega) (by omega)).trans ew.1) ?_
      refine RQ.aald (z := (P (n : Int) % 10)) rfl rfl rfl (by omega) (by decide) ?_
      refine RQ.seg 1 (pc' := 114) (L' := [some (.ref 51), some (.int (iI (n : Int))), some (.ref (10 + ((n : Int)).toNat))]) (st' := [.int (iI 1), .ref (5 + (P (n : Int) % 10).toNat), .int (iI (B (n : Int) 2)), .int (iI (n : Int)), .ref 58]) (g1 := (HW (usc sc 5112 0) (usc (usc (usc (usc (usc (usc (usc (usc ar 52 pl) 53 wi) 54 (usz nx (n : Int) 1000)) 55 l) 56 f) 57 sh) 58 cl) 59 (usz sv (n : Int) 0)) tx oc rl ou tl, q)) rfl ?_
      have hf2 := hF.2.1 (P (n : Int) % 10) (by omega) (by omega)
      refine RQ.ialdv (z := 1) (v := (W (P (n : Int) % 10) 1)) rfl rfl (HW_r4 (by omega)) (by omega) (by decide) (frx_w (j := 1) hX (by omega) (by omega) (by omega) (by omega) hF.1.2.1) ?_
      refine RQ.seg 4 (pc' := 121) (L' := [some (.ref 51), some (.int (iI (n : Int))), some (.ref (10 + ((n : Int)).toNat))]) (st' := [.int (iI (n : Int)), .ref 57, .int ((iI (B (n : Int) 2)) * (iI (W (P (n : Int) % 10) 1))), .int (iI (n : Int)), .ref 58]) (g1 := (HW (usc sc 5112 0) (usc (usc (usc (usc (usc (usc (usc (usc ar 52 pl) 53 wi) 54 (usz nx (n : Int) 1000)) 55 l) 56 f) 57 sh) 58 cl) 59 (usz sv (n : Int) 0)) tx oc rl ou tl, q)) rfl ?_
      refine RQ.ialdv (z := (n : Int)) (v := (shk nb W B P (n : Int))) rfl rfl rfl (by omega) (by decide) ((hsh (n : Int) (by omega) (by omega)).trans (if_pos (by omega))) ?_
      refine RQ.seg 3 (pc' := 125) (L' := [some (.ref 51), some (.int (iI (n : Int))), some (.ref (10 + ((n : Int)).toNat))]) (st' := [.int (((iI (B (n : Int) 2)) * (iI (W (P (n : Int) % 10) 1))) * ((iI (shk nb W B P (n : Int))) + (iI 1))), .int (iI (n : Int)), .ref 58]) (g1 := (HW (usc sc 5112 0) (usc (usc (usc (usc (usc (usc (usc (usc ar 52 pl) 53 wi) 54 (usz nx (n : Int) 1000)) 55 l) 56 f) 57 sh) 58 cl) 59 (usz sv (n : Int) 0)) tx oc rl ou tl, q)) rfl ?_
      refine RQ.iast (z := (n : Int)) (v := (((B (n : Int) 2) * (W (P (n : Int) % 10) 1)) * (shk nb W B P (n : Int) + 1))) (g1 := (HW (usc sc 5112 0) (usc (usc (usc (usc (usc (usc (usc (usc ar 52 pl) 53 wi) 54 (usz nx (n : Int) 1000)) 55 l) 56 f) 57 sh) 58 (usz cl (n : Int) (((B (n : Int) 2) * (W (P (n : Int) % 10) 1)) * (shk nb W B P (n : Int) + 1)))) 59 (usz sv (n : Int) 0)) tx oc rl ou tl, q)) rfl rfl (by simp only [iI_add, iI_sub, iI_mul, iI_neg]) rfl (by omega) (by decide) (HWa_58 (by funext j; unfold usc; cases hb : Nat.beq j 58 <;> first | rfl | (rw [Nat.eq_of_beq_eq_true hb]; rfl))) ?_
      refine RQ.seg 7 (pc' := 137) (L' := [some (.ref 51), some (.int (iI (n : Int))), some (.ref (10 + ((n : Int)).toNat))]) (st' := [.int (iI (n : Int)), .ref 53, .ref 51, .int (iI (n : Int)), .ref 54]) (g1 := (HW (usc sc 5112 0) (usc (usc (usc (usc (usc (usc (usc (usc ar 52 pl) 53 wi) 54 (usz nx (n : Int) 1000)) 55 l) 56 f) 57 sh) 58 (usz cl (n : Int) (((B (n : Int) 2) * (W (P (n : Int) % 10) 1)) * (shk nb W B P (n : Int) + 1)))) 59 (usz sv (n : Int) 0)) tx oc rl ou tl, q)) rfl ?_
      refine RQ.ialdv (z := (n : Int)) (v := (P (n : Int) % 10)) rfl rfl rfl (by omega) (by decide) ((hwi (n : Int) (by omega) (by omega)).trans ew.1) ?_
      refine RQ.seg 2 (pc' := 140) (L' := [some (.ref 51), some (.int (iI (n : Int))), some (.ref (10 + ((n : Int)).toNat))]) (st' := [.int (iI 0), .ref (10 + ((n : Int)).toNat), .int (iI (P (n : Int) % 10)), .ref 51, .int (iI (n : Int)), .ref 54]) (g1 := (HW (usc sc 5112 0) (usc (usc (usc (usc (usc (usc (usc (usc ar 52 pl) 53 wi) 54 (usz nx (n : Int) 1000)) 55 l) 56 f) 57 sh) 58 (usz cl (n : Int) (((B (n : Int) 2) * (W (P (n : Int) % 10) 1)) * (shk nb W B P (n : Int) + 1)))) 59 (usz sv (n : Int) 0)) tx oc rl ou tl, q)) rfl ?_
      refine RQ.ialdv (z := 0) (v := (B (n : Int) 0)) rfl rfl (HW_r9 (by omega)) (by omega) (by decide) (frx_b (j := 0) hX (by omega) (by omega) (by omega) (by omega) hF.1.2.2.2) ?_
      refine RQ.seg 5 (pc' := 148) (L' := [some (.ref 51), some (.int (iI (n : Int))), some (.ref (10 + ((n : Int)).toNat))]) (st' := [.int (iI (n : Int)), .ref 58, .int ((iI (B (n : Int) 0)) + (iI 1)), .int (iI (P (n : Int) % 10)), .ref 51, .int (iI (n : Int)), .ref 54]) (g1 := (HW (usc sc 5112 0) (usc (usc (usc (usc (usc (usc (usc (usc ar 52 pl) 53 wi) 54 (usz nx (n : Int) 1000)) 55 l) 56 f) 57 sh) 58 (usz cl (n : Int) (((B (n : Int) 2) * (W (P (n : Int) % 10) 1)) * (shk nb W B P (n : Int) + 1)))) 59 (usz sv (n : Int) 0)) tx oc rl ou tl, q)) rfl ?_
      refine RQ.ialdv (z := (n : Int)) (v := (((B (n : Int) 2) * (W (P (n : Int) % 10) 1)) * (shk nb W B P (n : Int) + 1))) rfl rfl rfl (by omega) (by decide) (show (usz cl (n : Int) (((B (n : Int) 2) * (W (P (n : Int) % 10) 1)) * (shk nb W B P (n : Int) + 1))) (n : Int) = ((B (n : Int) 2) * (W (P (n : Int) % 10) 1)) * (shk nb W B P (n : Int) + 1) by rw [usz_s]) ?_
      refine RQ.seg 1 (pc' := 150) (L' := [some (.ref 51), some (.int (iI (n : Int))), some (.ref (10 + ((n : Int)).toNat))]) (st' := [.int (((iI (B (n : Int) 0)) + (iI 1)) + (iI (((B (n : Int) 2) * (W (P (n : Int) % 10) 1)) * (shk nb W B P (n : Int) + 1)))), .int (iI (P (n : Int) % 10)), .ref 51, .int (iI (n : Int)), .ref 54]) (g1 := (HW (usc sc 5112 0) (usc (usc (usc (usc (usc (usc (usc (usc ar 52 pl) 53 wi) 54 (usz nx (n : Int) 1000)) 55 l) 56 f) 57 sh) 58 (usz cl (n : Int) (((B (n : Int) 2) * (W (P (n : Int) % 10) 1)) * (shk nb W B P (n : Int) + 1)))) 59 (usz sv (n : Int) 0)) tx oc rl ou tl, q)) rfl ?_
      refine RQ.to (L' := [some (.ref 51), some (.int (iI (n : Int))), some (.ref (10 + ((n : Int)).toNat))]) (st' := [.int (iI (B (n : Int) 0 + 1 + (((B (n : Int) 2) * (W (P (n : Int) % 10) 1)) * (shk nb W B P (n : Int) + 1)))), .int (iI (P (n : Int) % 10)), .ref 51, .int (iI (n : Int)), .ref 54]) rfl (by simp only [iI_add, iI_sub, iI_mul, iI_neg]) ?_
      refine RQ.call rfl rfl (x_inTime (sc := usc sc 5112 0) (ar := usc (usc (usc (usc (usc (usc (usc (usc ar 52 pl) 53 wi) 54 (usz nx (n : Int) 1000)) 55 l) 56 f) 57 sh) 58 (usz cl (n : Int) (((B (n : Int) 2) * (W (P (n : Int) % 10) 1)) * (shk nb W B P (n : Int) + 1)))) 59 (usz sv (n : Int) 0)) hF hX (w := P (n : Int) % 10) (t := B (n : Int) 0 + 1 + (((B (n : Int) 2) * (W (P (n : Int) % 10) 1)) * (shk nb W B P (n : Int) + 1))) (by omega) (by show 0 ≤ l (P (n : Int) % 10) ∧ l (P (n : Int) % 10) ≤ 9; omega) (by omega)) ?_
      refine RQ.iast (z := (n : Int)) (v := (itm W l (P (n : Int) % 10) (B (n : Int) 0 + 1 + (((B (n : Int) 2) * (W (P (n : Int) % 10) 1)) * (shk nb W B P (n : Int) + 1))))) (g1 := (HW (usc sc 5112 0) (usc (usc (usc (usc (usc (usc (usc (usc ar 52 pl) 53 wi) 54 (usz (usz nx (n : Int) 1000) (n : Int) (itm W l (P (n : Int) % 10) (B (n : Int) 0 + 1 + (((B (n : Int) 2) * (W (P (n : Int) % 10) 1)) * (shk nb W B P (n : Int) + 1)))))) 55 l) 56 f) 57 sh) 58 (usz cl (n : Int) (((B (n : Int) 2) * (W (P (n : Int) % 10) 1)) * (shk nb W B P (n : Int) + 1)))) 59 (usz sv (n : Int) 0)) tx oc rl ou tl, q)) rfl rfl rfl rfl (by omega) (by decide) (HWa_54 (by funext j; unfold usc; cases hb : Nat.beq j 54 <;> first | rfl | (rw [Nat.eq_of_beq_eq_true hb]; rfl))) ?_
      refine RQ.seg 2 (pc' := 50) (L' := [some (.ref 51), some (.int ((iI (n : Int)) + (iI 1))), some (.ref (10 + ((n : Int)).toNat))]) (st' := []) (g1 := (HW (usc sc 5112 0) (usc (usc (usc (usc (usc (usc (usc (usc ar 52 pl) 53 wi) 54 (usz (usz nx (n : Int) 1000) (n : Int) (itm W l (P (n : Int) % 10) (B (n : Int) 0 + 1 + (((B (n : Int) 2) * (W (P (n : Int) % 10) 1)) * (shk nb W B P (n : Int) + 1)))))) 55 l) 56 f) 57 sh) 58 (usz cl (n : Int) (((B (n : Int) 2) * (W (P (n : Int) % 10) 1)) * (shk nb W B P (n : Int) + 1)))) 59 (usz sv (n : Int) 0)) tx oc rl ou tl, q)) rfl ?_
      refine RQ.to (L' := [some (.ref 51), some (.int (iI ((n : Int) + 1))), some (.ref (10 + ((n : Int)).toNat))]) (st' := []) (by simp only [iI_add, iI_sub, iI_mul, iI_neg]) rfl ?_
      refine x_bv_b hF hX hmy hwi hsh hl m (n + 1) _ _ _ _ (by omega) (fun j h0 h1 => ?_)
      by_cases e : j = (n : Int)
      · subst e; refine ⟨usz_s _ _ _, ?_, fun h2 h3 => ?_⟩
        · rw [usz_s, nx0, if_pos ⟨qa, ka⟩]; rfl
        · rw [usz_s]; rfl
      · have e3 := hi j h0 (by omega)
        refine ⟨by rw [usz_n e]; exact e3.1, by (repeat rw [usz_n e]); exact e3.2.1, fun h2 h3 => by (try rw [usz_n e]); exact e3.2.2 h2 h3⟩
theorem x_begin {K : PK} {d : Nat} {sc : Nat → Int} {ar : Nat → Int → Int} {tx oc : Nat} {rl : Nat → Option Nat} {ou : Nat → Int64} {tl : List PO} {q : Nat × Nat} {pl wi sh : Int → Int} {nw nb : Int} {W B : Int → Int → Int} (hF : FrOK nw nb W B) (hX : FrX (sc 303) (sc 304) (ar 5) (ar 6) (ar 7) (ar 8) (ar 10) (ar 11) (ar 12) nw nb W B) {P : Int → Int} (hmy : PtOK nw nb W B P) (hwi : ∀ j, 0 ≤ j → j < 3 → wi j = xwi nb B P j) (hsh : ∀ j, 0 ≤ j → j < 3 → sh j = if j < nb then shk nb W B P j else 0) : CQ K (d + 2) 37 [.ref 51] (HW sc (usc (usc (usc ar 52 pl) 53 wi) 57 sh) tx oc rl ou tl, q) (fun r g' => r = none ∧ ∃ (S : SV) (nx cl : Int → Int), g' = (HW (usc sc 5112 (sT S)) (usc (usc (usc (usc (usc (usc (usc (usc (usc (usc (usc ar 52 pl) 53 wi) 54 nx) 55 (sL S)) 56 (sF S)) 57 sh) 58 cl) 59 (sS S)) 60 (sA S)) 61 (sB S)) 62 (sC S)) tx oc rl ou tl, q) ∧ SIn nw nb W S ∧ (∀ j, 0 ≤ j → j < 3 → nx j = nx0 nb W B P (sL S) j) ∧ (∀ j, 0 ≤ j → j < nb → bkv nb B P j = 0 → cl j = clb nb W B P j)) := by
  have hn := hF.1
  have hm1 := hX.1
  have hm2 := hX.2.1
  refine CQ.of (own := 4) (n := 3) (ini := false) (rt := none) (cd := cd37) (by decide +kernel) rfl (by decide +kernel) rfl (Nat.le_of_ble_eq_true rfl) ?_
  refine RQ.seg 5 (pc' := 7) (L' := [some (.ref 51), some (.int (iI 0)), none]) (st' := []) (g1 := (HW (usc sc 5112 0) (usc (usc (usc ar 52 pl) 53 wi) 57 sh) tx oc rl ou tl, q)) rfl ?_
  refine RQ.hp (g1 := (HW (usc sc 5112 0) (usc (usc (usc (usc ar 52 pl) 53 wi) 55 (ar 55)) 57 sh) tx oc rl ou tl, q)) (congrArg (fun a => (HW (usc sc 5112 0) a tx oc rl ou tl, q)) (show usc (usc (usc ar 52 pl) 53 wi) 57 sh = usc (usc (usc (usc ar 52 pl) 53 wi) 55 (ar 55)) 57 sh by funext j; unfold usc; cases hb : Nat.beq j 55 <;> first | rfl | (rw [Nat.eq_of_beq_eq_true hb]; rfl))) ?_
  refine RQ.hp (g1 := (HW (usc sc 5112 0) (usc (usc (usc (usc (usc ar 52 pl) 53 wi) 55 (ar 55)) 56 (ar 56)) 57 sh) tx oc rl ou tl, q)) (congrArg (fun a => (HW (usc sc 5112 0) a tx oc rl ou tl, q)) (show usc (usc (usc (usc ar 52 pl) 53 wi) 55 (ar 55)) 57 sh = usc (usc (usc (usc (usc ar 52 pl) 53 wi) 55 (ar 55)) 56 (ar 56)) 57 sh by funext j; unfold usc; cases hb : Nat.beq j 56 <;> first | rfl | (rw [Nat.eq_of_beq_eq_true hb]; rfl))) ?_
  refine x_bv_w (sc := sc) (ar := ar) hF hX nw.toNat 0 (ar 55) (ar 56) (by omega) (fun j h0 h1 => absurd h1 (by omega)) (fun l f hl => ?_)
  refine RQ.seg 2 (pc' := 50) (L' := [some (.ref 51), some (.int (iI 0)), none]) (st' := []) (g1 := (HW (usc sc 5112 0) (usc (usc (usc (usc (usc ar 52 pl) 53 wi) 55 l) 56 f) 57 sh) tx oc rl ou tl, q)) rfl ?_
  refine RQ.hp (g1 := (HW (usc sc 5112 0) (usc (usc (usc (usc (usc (usc ar 52 pl) 53 wi) 54 (ar 54)) 55 l) 56 f) 57 sh) tx oc rl ou tl, q)) (congrArg (fun a => (HW (usc sc 5112 0) a tx oc rl ou tl, q)) (show usc (usc (usc (usc (usc ar 52 pl) 53 wi) 55 l) 56 f) 57 sh = usc (usc (usc (usc (usc (usc ar 52 pl) 53 wi) 54 (ar 54)) 55 l) 56 f) 57 sh by funext j; unfold usc; cases hb : Nat.beq j 54 <;> first | rfl | (rw [Nat.eq_of_beq_eq_true hb]; rfl))) ?_
  refine RQ.hp (g1 := (HW (usc sc 5112 0) (usc (usc (usc (usc (usc (usc (usc ar 52 pl) 53 wi) 54 (ar 54)) 55 l) 56 f) 57 sh) 58 (ar 58)) tx oc rl ou tl, q)) (congrArg (fun a => (HW (usc sc 5112 0) a tx oc rl ou tl, q)) (show usc (usc (usc (usc (usc (usc ar 52 pl) 53 wi) 54 (ar 54)) 55 l) 56 f) 57 sh = usc (usc (usc (usc (usc (usc (usc ar 52 pl) 53 wi) 54 (ar 54)) 55 l) 56 f) 57 sh) 58 (ar 58) by funext j; unfold usc; cases hb : Nat.beq j 58 <;> first | rfl | (rw [Nat.eq_of_beq_eq_true hb]; rfl))) ?_
  refine RQ.hp (g1 := (HW (usc sc 5112 0) (usc (usc (usc (usc (usc (usc (usc (usc ar 52 pl) 53 wi) 54 (ar 54)) 55 l) 56 f) 57 sh) 58 (ar 58)) 59 (ar 59)) tx oc rl ou tl, q)) (congrArg (fun a => (HW (usc sc 5112 0) a tx oc rl ou tl, q)) (show usc (usc (usc (usc (usc (usc (usc ar 52 pl) 53 wi) 54 (ar 54)) 55 l) 56 f) 57 sh) 58 (ar 58) = usc (usc (usc (usc (usc (usc (usc (usc ar 52 pl) 53 wi) 54 (ar 54)) 55 l) 56 f) 57 sh) 58 (ar 58)) 59 (ar 59) by funext j; unfold usc; cases hb : Nat.beq j 59 <;> first | rfl | (rw [Nat.eq_of_beq_eq_true hb]; rfl))) ?_
  exact x_bv_b (sc := sc) (ar := ar) hF hX hmy hwi hsh hl 3 0 (ar 54) (ar 58) (ar 59) _ (by omega) (fun j h0 h1 => absurd h1 (by omega))
theorem x_run78_l {K : PK} {d : Nat} {sc : Nat → Int} {ar : Nat → Int → Int} {tx oc : Nat} {rl : Nat → Option Nat} {ou : Nat → Int64} {tl : List PO} {q : Nat × Nat} {Q : Option Value → PG → Prop} {pl wi sh cl : Int → Int} {nw nb : Int} {W B : Int → Int → Int} (hF : FrOK nw nb W B) (hX : FrX (sc 303) (sc 304) (ar 5) (ar 6) (ar 7) (ar 8) (ar 10) (ar 11) (ar 12) nw nb W B) {P : Int → Int} (hmy : PtOK nw nb W B P) (hwi : ∀ j, 0 ≤ j → j < 3 → wi j = xwi nb B P j) (hcl : ∀ j, 0 ≤ j → j < nb → bkv nb B P j = 0 → cl j = clb nb W B P j) : ∀ (m : Nat) (n : Int) (S : SV) (nx nz : Int → Int) (e3 : Option Value) (hm : 0 ≤ n ∧ n + m = 36) (hnx : ∀ j, 0 ≤ j → j < 3 → nx j = nz j) (hN : NOK nw nb W B P S nz) (hS : SOK nw nb S) (hk : ∀ nx' : Int → Int, Q none (HW (usc sc 5112 (sT (crn nb W B P m S nz))) (usc (usc (usc (usc (usc (usc (usc (usc (usc (usc (usc ar 52 pl) 53 wi) 54 nx') 55 (sL (crn nb W B P m S nz))) 56 (sF (crn nb W B P m S nz))) 57 sh) 58 cl) 59 (sS (crn nb W B P m S nz))) 60 (sA (crn nb W B P m S nz))) 61 (sB (crn nb W B P m S nz))) 62 (sC (crn nb W B P m S nz))) tx oc rl ou tl, q)), RQ K (d + 2) 4 false none cd29 15 [some (.ref 51), some (.ref 78), some (.int (iI n)), e3] [] (HW (usc sc 5112 (sT S)) (usc (usc (usc (usc (usc (usc (usc (usc (usc (usc (usc ar 52 pl) 53 wi) 54 nx) 55 (sL S)) 56 (sF S)) 57 sh) 58 cl) 59 (sS S)) 60 (sA S)) 61 (sB S)) 62 (sC S)) tx oc rl ou tl, q) Q
  | 0, n, S, nx, nz, e3, hm, hnx, hN, hS, hk => by
    have hn := hF.1
    have hm1 := hX.1
    have hm2 := hX.2.1
    refine RQ.seg 2 (pc' := 18) (L' := [some (.ref 51), some (.ref 78), some (.int (iI n)), e3]) (st' := [.int (iI 36), .int (iI n)]) (g1 := (HW (usc sc 5112 (sT S)) (usc (usc (usc (usc (usc (usc (usc (usc (usc (usc (usc ar 52 pl) 53 wi) 54 nx) 55 (sL S)) 56 (sF S)) 57 sh) 58 cl) 59 (sS S)) 60 (sA S)) 61 (sB S)) 62 (sC S)) tx oc rl ou tl, q)) rfl ?_
    refine RQ.if2 (a := n) (b := 36) rfl rfl rfl rfl (by omega) (by omega) (fun _ => ?_) (fun (q : ¬ 36 ≤ n) => absurd (show 36 ≤ n from by omega) q)
    refine RQ.ret rfl rfl ?_
    exact hk nx
  | m + 1, n, S, nx, nz, e3, hm, hnx, hN, hS, hk => by
    have hn := hF.1
    have hm1 := hX.1
    have hm2 := hX.2.1
    have ha := amn_r nz
    have hNa := hN (amn nz) ha.1 ha.2
    refine RQ.seg 2 (pc' := 18) (L' := [some (.ref 51), some (.ref 78), some (.int (iI n)), e3]) (st' := [.int (iI 36), .int (iI n)]) (g1 := (HW (usc sc 5112 (sT S)) (usc (usc (usc (usc (usc (usc (usc (usc (usc (usc (usc ar 52 pl) 53 wi) 54 nx) 55 (sL S)) 56 (sF S)) 57 sh) 58 cl) 59 (sS S)) 60 (sA S)) 61 (sB S)) 62 (sC S)) tx oc rl ou tl, q)) rfl ?_
    refine RQ.if2 (a := n) (b := 36) rfl rfl rfl rfl (by omega) (by omega) (fun (q : 36 ≤ n) => absurd q (show ¬ 36 ≤ n from by omega)) (fun _ => ?_)
    refine RQ.seg 1 (pc' := 22) (L' := [some (.ref 51), some (.ref 78), some (.int (iI n)), e3]) (st' := [.ref 51]) (g1 := (HW (usc sc 5112 (sT S)) (usc (usc (usc (usc (usc (usc (usc (usc (usc (usc (usc ar 52 pl) 53 wi) 54 nx) 55 (sL S)) 56 (sF S)) 57 sh) 58 cl) 59 (sS S)) 60 (sA S)) 61 (sB S)) 62 (sC S)) tx oc rl ou tl, q)) rfl ?_
    refine RQ.call rfl rfl (x_next (sc := usc sc 5112 (sT S)) (ar := usc (usc (usc (usc (usc (usc (usc (usc (usc (usc (usc ar 52 pl) 53 wi) 54 nx) 55 (sL S)) 56 (sF S)) 57 sh) 58 cl) 59 (sS S)) 60 (sA S)) 61 (sB S)) 62 (sC S)) (nx := nz) hnx (fun j h0 h1 => (hN j h0 h1).1)) ?_
    rcases Decidable.em (nz (amn nz) = 1000) with hz | hz
    · skip
      rw [if_pos hz]
      refine RQ.seg 4 (pc' := 31) (L' := [some (.ref 51), some (.ref 78), some (.int (iI n)), some (.int (iI (-1)))]) (st' := []) (g1 := (HW (usc sc 5112 (sT S)) (usc (usc (usc (usc (usc (usc (usc (usc (usc (usc (usc ar 52 pl) 53 wi) 54 nx) 55 (sL S)) 56 (sF S)) 57 sh) 58 cl) 59 (sS S)) 60 (sA S)) 61 (sB S)) 62 (sC S)) tx oc rl ou tl, q)) rfl ?_
      refine RQ.ret rfl rfl ?_
      have e := hk nx; rw [crn, if_pos hz] at e; exact e
    · skip
      rw [if_neg hz]
      refine RQ.seg 3 (pc' := 28) (L' := [some (.ref 51), some (.ref 78), some (.int (iI n)), some (.int (iI (amn nz)))]) (st' := [.int (iI (-1)), .int (iI (amn nz))]) (g1 := (HW (usc sc 5112 (sT S)) (usc (usc (usc (usc (usc (usc (usc (usc (usc (usc (usc ar 52 pl) 53 wi) 54 nx) 55 (sL S)) 56 (sF S)) 57 sh) 58 cl) 59 (sS S)) 60 (sA S)) 61 (sB S)) 62 (sC S)) tx oc rl ou tl, q)) rfl ?_
      refine RQ.if2 (a := (amn nz)) (b := (-1)) rfl rfl rfl rfl (by omega) (by omega) (fun _ => ?_) (fun (q : ¬ amn nz ≠ (-1)) => absurd (show amn nz ≠ (-1) from by omega) q)
      refine RQ.seg 2 (pc' := 34) (L' := [some (.ref 51), some (.ref 78), some (.int (iI n)), some (.int (iI (amn nz)))]) (st' := [.int (iI (amn nz)), .ref 51]) (g1 := (HW (usc sc 5112 (sT S)) (usc (usc (usc (usc (usc (usc (usc (usc (usc (usc (usc ar 52 pl) 53 wi) 54 nx) 55 (sL S)) 56 (sF S)) 57 sh) 58 cl) 59 (sS S)) 60 (sA S)) 61 (sB S)) 62 (sC S)) tx oc rl ou tl, q)) rfl ?_
      have hza := hNa.2 hz
      have hxa := hnx (amn nz) ha.1 ha.2
      refine RQ.callQ rfl rfl (x_take (S := S) (pl := pl) (wi := wi) (nx := nx) (sh := sh) (cl := cl) hF hX hmy hwi hcl (b := amn nz) ⟨ha.1, hza.1.1⟩ hza.1.2 hS (by omega) hza.2.2) (fun rv g1 hc => ?_)
      obtain ⟨rfl, nx2, rfl, hnx2⟩ := hc
      refine RQ.seg 2 (pc' := 15) (L' := [some (.ref 51), some (.ref 78), some (.int ((iI n) + (iI 1))), some (.int (iI (amn nz)))]) (st' := []) (g1 := (HW (usc sc 5112 (sT (vtk S (P (amn nz) % 10) (amn nz) (nx (amn nz))))) (usc (usc (usc (usc (usc (usc (usc (usc (usc (usc (usc ar 52 pl) 53 wi) 54 nx2) 55 (sL (vtk S (P (amn nz) % 10) (amn nz) (nx (amn nz))))) 56 (sF (vtk S (P (amn nz) % 10) (amn nz) (nx (amn nz))))) 57 sh) 58 cl) 59 (sS (vtk S (P (amn nz) % 10) (amn nz) (nx (amn nz))))) 60 (sA (vtk S (P (amn nz) % 10) (amn nz) (nx (amn nz))))) 61 (sB (vtk S (P (amn nz) % 10) (amn nz) (nx (amn nz))))) 62 (sC (vtk S (P (amn nz) % 10) (amn nz) (nx (amn nz))))) tx oc rl ou tl, q)) rfl ?_
      refine RQ.to (L' := [some (.ref 51), some (.ref 78), some (.int (iI (n + 1))), some (.int (iI (amn nz)))]) (st' := []) (by simp only [iI_add, iI_sub, iI_mul, iI_neg]) rfl ?_
      rw [hxa]
      refine x_run78_l hF hX hmy hwi hcl m (n + 1) _ nx2 (nxu nb W B P S nz (amn nz)) _ (by omega) (fun j h0 h1 => ?_) (hN.up hF hmy hS ha hz) ?_ ?_
      · rw [hnx2 j h0 h1, nxu, nxu]; rw [hxa, hnx j h0 h1]
      · have hpw := hmy.w ha.1 hza.1.1 hza.1.2; exact hS.tk (by omega) (by omega) ⟨ha.1, hza.1.1⟩ (by omega) (by omega)
      · intro nx'; have e := hk nx'; rw [crn, if_neg hz] at e; exact e
theorem x_run78_c {K : PK} {d : Nat} {sc : Nat → Int} {ar : Nat → Int → Int} {tx oc : Nat} {rl : Nat → Option Nat} {ou : Nat → Int64} {tl : List PO} {q : Nat × Nat} {nw nb : Int} {W B : Int → Int → Int} (hF : FrOK nw nb W B) (hX : FrX (sc 303) (sc 304) (ar 5) (ar 6) (ar 7) (ar 8) (ar 10) (ar 11) (ar 12) nw nb W B) {P : Int → Int} (hPu : ∀ b, 0 ≤ b → b < nb → ar 78 b = P b) (hmy : PtOK nw nb W B P) : CQ K (d + 3) 29 [.ref 51, .ref 78] (HW sc ar tx oc rl ou tl, q) (fun r g' => r = none ∧ ∃ (S : SV) (pl wi nx sh cl : Int → Int), g' = (HW (usc sc 5112 (sT (crn nb W B P 36 S (nx0 nb W B P (sL S))))) (usc (usc (usc (usc (usc (usc (usc (usc (usc (usc (usc ar 52 pl) 53 wi) 54 nx) 55 (sL (crn nb W B P 36 S (nx0 nb W B P (sL S))))) 56 (sF (crn nb W B P 36 S (nx0 nb W B P (sL S))))) 57 sh) 58 cl) 59 (sS (crn nb W B P 36 S (nx0 nb W B P (sL S))))) 60 (sA (crn nb W B P 36 S (nx0 nb W B P (sL S))))) 61 (sB (crn nb W B P 36 S (nx0 nb W B P (sL S))))) 62 (sC (crn nb W B P 36 S (nx0 nb W B P (sL S))))) tx oc rl ou tl, q) ∧ SIn nw nb W S ∧ (∀ j, 0 ≤ j → j < 3 → pl j = xpl nb B P j) ∧ (∀ j, 0 ≤ j → j < 3 → wi j = xwi nb B P j) ∧ (∀ j, 0 ≤ j → j < 3 → sh j = if j < nb then shk nb W B P j else 0) ∧ (∀ j, 0 ≤ j → j < nb → bkv nb B P j = 0 → cl j = clb nb W B P j)) := by
  have hn := hF.1
  have hm1 := hX.1
  have hm2 := hX.2.1
  refine CQ.of (own := 4) (n := 4) (ini := false) (rt := none) (cd := cd29) (by decide +kernel) rfl (by decide +kernel) rfl (Nat.le_of_ble_eq_true rfl) ?_
  refine RQ.seg 2 (pc' := 2) (L' := [some (.ref 51), some (.ref 78), none, none]) (st' := [.ref 78, .ref 51]) (g1 := (HW sc ar tx oc rl ou tl, q)) rfl ?_
  refine RQ.callQ rfl rfl (x_sf78 hF hX hPu hmy) (fun rv g1 hc => ?_)
  obtain ⟨rfl, pl, wi, rfl, hpw⟩ := hc
  have hpl : ∀ j, 0 ≤ j → j < 3 → pl j = xpl nb B P j := fun j h0 h1 => (hpw j h0 h1).1
  have hwi : ∀ j, 0 ≤ j → j < 3 → wi j = xwi nb B P j := fun j h0 h1 => (hpw j h0 h1).2
  refine RQ.seg 1 (pc' := 6) (L' := [some (.ref 51), some (.ref 78), none, none]) (st' := [.ref 51]) (g1 := (HW sc (usc (usc ar 52 pl) 53 wi) tx oc rl ou tl, q)) rfl ?_
  refine RQ.callQ rfl rfl (x_shakeAll (sc := sc) (ar := usc (usc ar 52 pl) 53 wi) hF hX hmy hpl hwi) (fun rv g1 hc => ?_)
  obtain ⟨rfl, sh, rfl, hsh⟩ := hc
  refine RQ.seg 1 (pc' := 10) (L' := [some (.ref 51), some (.ref 78), none, none]) (st' := [.ref 51]) (g1 := (HW sc (usc (usc (usc ar 52 pl) 53 wi) 57 sh) tx oc rl ou tl, q)) rfl ?_
  refine RQ.callQ rfl rfl (x_begin (sc := sc) (ar := ar) hF hX hmy hwi hsh) (fun rv g1 hc => ?_)
  obtain ⟨rfl, S, nx, cl, rfl, hI, hnx, hcl⟩ := hc
  refine RQ.seg 2 (pc' := 15) (L' := [some (.ref 51), some (.ref 78), some (.int (iI 0)), none]) (st' := []) (g1 := (HW (usc sc 5112 (sT S)) (usc (usc (usc (usc (usc (usc (usc (usc (usc (usc (usc ar 52 pl) 53 wi) 54 nx) 55 (sL S)) 56 (sF S)) 57 sh) 58 cl) 59 (sS S)) 60 (sA S)) 61 (sB S)) 62 (sC S)) tx oc rl ou tl, q)) rfl ?_
  refine x_run78_l (sc := sc) (ar := ar) hF hX hmy hwi hcl 36 0 S nx (nx0 nb W B P (sL S)) _ (by omega) hnx (NOK.in hF hmy (fun j h0 h1 => rfl)) (hI.ok hF) (fun nx' => ?_)
  exact ⟨rfl, S, pl, wi, nx', sh, cl, rfl, hI, hpl, hwi, hsh, hcl⟩
theorem x_run70_l {K : PK} {d : Nat} {sc : Nat → Int} {ar : Nat → Int → Int} {tx oc : Nat} {rl : Nat → Option Nat} {ou : Nat → Int64} {tl : List PO} {q : Nat × Nat} {Q : Option Value → PG → Prop} {pl wi sh cl : Int → Int} {nw nb : Int} {W B : Int → Int → Int} (hF : FrOK nw nb W B) (hX : FrX (sc 303) (sc 304) (ar 5) (ar 6) (ar 7) (ar 8) (ar 10) (ar 11) (ar 12) nw nb W B) {P : Int → Int} (hmy : PtOK nw nb W B P) (hwi : ∀ j, 0 ≤ j → j < 3 → wi j = xwi nb B P j) (hcl : ∀ j, 0 ≤ j → j < nb → bkv nb B P j = 0 → cl j = clb nb W B P j) : ∀ (m : Nat) (n : Int) (S : SV) (nx nz : Int → Int) (e3 : Option Value) (hm : 0 ≤ n ∧ n + m = 36) (hnx : ∀ j, 0 ≤ j → j < 3 → nx j = nz j) (hN : NOK nw nb W B P S nz) (hS : SOK nw nb S) (hk : ∀ nx' : Int → Int, Q none (HW (usc sc 5112 (sT (crn nb W B P m S nz))) (usc (usc (usc (usc (usc (usc (usc (usc (usc (usc (usc ar 52 pl) 53 wi) 54 nx') 55 (sL (crn nb W B P m S nz))) 56 (sF (crn nb W B P m S nz))) 57 sh) 58 cl) 59 (sS (crn nb W B P m S nz))) 60 (sA (crn nb W B P m S nz))) 61 (sB (crn nb W B P m S nz))) 62 (sC (crn nb W B P m S nz))) tx oc rl ou tl, q)), RQ K (d + 2) 4 false none cd29 15 [some (.ref 51), some (.ref 70), some (.int (iI n)), e3] [] (HW (usc sc 5112 (sT S)) (usc (usc (usc (usc (usc (usc (usc (usc (usc (usc (usc ar 52 pl) 53 wi) 54 nx) 55 (sL S)) 56 (sF S)) 57 sh) 58 cl) 59 (sS S)) 60 (sA S)) 61 (sB S)) 62 (sC S)) tx oc rl ou tl, q) Q
  | 0, n, S, nx, nz, e3, hm, hnx, hN, hS, hk => by
    have hn := hF.1
    have hm1 := hX.1
    have hm2 := hX.2.1
    refine RQ.seg 2 (pc' := 18) (L' := [some (.ref 51), some (.ref 70), some (.int (iI n)), e3]) (st' := [.int (iI 36), .int (iI n)]) (g1 := (HW (usc sc 5112 (sT S)) (usc (usc (usc (usc (usc (usc (usc (usc (usc (usc (usc ar 52 pl) 53 wi) 54 nx) 55 (sL S)) 56 (sF S)) 57 sh) 58 cl) 59 (sS S)) 60 (sA S)) 61 (sB S)) 62 (sC S)) tx oc rl ou tl, q)) rfl ?_
    refine RQ.if2 (a := n) (b := 36) rfl rfl rfl rfl (by omega) (by omega) (fun _ => ?_) (fun (q : ¬ 36 ≤ n) => absurd (show 36 ≤ n from by omega) q)
    refine RQ.ret rfl rfl ?_
    exact hk nx
  | m + 1, n, S, nx, nz, e3, hm, hnx, hN, hS, hk => by
    have hn := hF.1
    have hm1 := hX.1
    have hm2 := hX.2.1
    have ha := amn_r nz
    have hNa := hN (amn nz) ha.1 ha.2
    refine RQ.seg 2 (pc' := 18) (L' := [some (.ref 51), some (.ref 70), some (.int (iI n)), e3]) (st' := [.int (iI 36), .int (iI n)]) (g1 := (HW (usc sc 5112 (sT S)) (usc (usc (usc (usc (usc (usc (usc (usc (usc (usc (usc ar 52 pl) 53 wi) 54 nx) 55 (sL S)) 56 (sF S)) 57 sh) 58 cl) 59 (sS S)) 60 (sA S)) 61 (sB S)) 62 (sC S)) tx oc rl ou tl, q)) rfl ?_
    refine RQ.if2 (a := n) (b := 36) rfl rfl rfl rfl (by omega) (by omega) (fun (q : 36 ≤ n) => absurd q (show ¬ 36 ≤ n from by omega)) (fun _ => ?_)
    refine RQ.seg 1 (pc' := 22) (L' := [some (.ref 51), some (.ref 70), some (.int (iI n)), e3]) (st' := [.ref 51]) (g1 := (HW (usc sc 5112 (sT S)) (usc (usc (usc (usc (usc (usc (usc (usc (usc (usc (usc ar 52 pl) 53 wi) 54 nx) 55 (sL S)) 56 (sF S)) 57 sh) 58 cl) 59 (sS S)) 60 (sA S)) 61 (sB S)) 62 (sC S)) tx oc rl ou tl, q)) rfl ?_
    refine RQ.call rfl rfl (x_next (sc := usc sc 5112 (sT S)) (ar := usc (usc (usc (usc (usc (usc (usc (usc (usc (usc (usc ar 52 pl) 53 wi) 54 nx) 55 (sL S)) 56 (sF S)) 57 sh) 58 cl) 59 (sS S)) 60 (sA S)) 61 (sB S)) 62 (sC S)) (nx := nz) hnx (fun j h0 h1 => (hN j h0 h1).1)) ?_
    rcases Decidable.em (nz (amn nz) = 1000) with hz | hz
    · skip
      rw [if_pos hz]
      refine RQ.seg 4 (pc' := 31) (L' := [some (.ref 51), some (.ref 70), some (.int (iI n)), some (.int (iI (-1)))]) (st' := []) (g1 := (HW (usc sc 5112 (sT S)) (usc (usc (usc (usc (usc (usc (usc (usc (usc (usc (usc ar 52 pl) 53 wi) 54 nx) 55 (sL S)) 56 (sF S)) 57 sh) 58 cl) 59 (sS S)) 60 (sA S)) 61 (sB S)) 62 (sC S)) tx oc rl ou tl, q)) rfl ?_
      refine RQ.ret rfl rfl ?_
      have e := hk nx; rw [crn, if_pos hz] at e; exact e
    · skip
      rw [if_neg hz]
      refine RQ.seg 3 (pc' := 28) (L' := [some (.ref 51), some (.ref 70), some (.int (iI n)), some (.int (iI (amn nz)))]) (st' := [.int (iI (-1)), .int (iI (amn nz))]) (g1 := (HW (usc sc 5112 (sT S)) (usc (usc (usc (usc (usc (usc (usc (usc (usc (usc (usc ar 52 pl) 53 wi) 54 nx) 55 (sL S)) 56 (sF S)) 57 sh) 58 cl) 59 (sS S)) 60 (sA S)) 61 (sB S)) 62 (sC S)) tx oc rl ou tl, q)) rfl ?_
      refine RQ.if2 (a := (amn nz)) (b := (-1)) rfl rfl rfl rfl (by omega) (by omega) (fun _ => ?_) (fun (q : ¬ amn nz ≠ (-1)) => absurd (show amn nz ≠ (-1) from by omega) q)
      refine RQ.seg 2 (pc' := 34) (L' := [some (.ref 51), some (.ref 70), some (.int (iI n)), some (.int (iI (amn nz)))]) (st' := [.int (iI (amn nz)), .ref 51]) (g1 := (HW (usc sc 5112 (sT S)) (usc (usc (usc (usc (usc (usc (usc (usc (usc (usc (usc ar 52 pl) 53 wi) 54 nx) 55 (sL S)) 56 (sF S)) 57 sh) 58 cl) 59 (sS S)) 60 (sA S)) 61 (sB S)) 62 (sC S)) tx oc rl ou tl, q)) rfl ?_
      have hza := hNa.2 hz
      have hxa := hnx (amn nz) ha.1 ha.2
      refine RQ.callQ rfl rfl (x_take (S := S) (pl := pl) (wi := wi) (nx := nx) (sh := sh) (cl := cl) hF hX hmy hwi hcl (b := amn nz) ⟨ha.1, hza.1.1⟩ hza.1.2 hS (by omega) hza.2.2) (fun rv g1 hc => ?_)
      obtain ⟨rfl, nx2, rfl, hnx2⟩ := hc
      refine RQ.seg 2 (pc' := 15) (L' := [some (.ref 51), some (.ref 70), some (.int ((iI n) + (iI 1))), some (.int (iI (amn nz)))]) (st' := []) (g1 := (HW (usc sc 5112 (sT (vtk S (P (amn nz) % 10) (amn nz) (nx (amn nz))))) (usc (usc (usc (usc (usc (usc (usc (usc (usc (usc (usc ar 52 pl) 53 wi) 54 nx2) 55 (sL (vtk S (P (amn nz) % 10) (amn nz) (nx (amn nz))))) 56 (sF (vtk S (P (amn nz) % 10) (amn nz) (nx (amn nz))))) 57 sh) 58 cl) 59 (sS (vtk S (P (amn nz) % 10) (amn nz) (nx (amn nz))))) 60 (sA (vtk S (P (amn nz) % 10) (amn nz) (nx (amn nz))))) 61 (sB (vtk S (P (amn nz) % 10) (amn nz) (nx (amn nz))))) 62 (sC (vtk S (P (amn nz) % 10) (amn nz) (nx (amn nz))))) tx oc rl ou tl, q)) rfl ?_
      refine RQ.to (L' := [some (.ref 51), some (.ref 70), some (.int (iI (n + 1))), some (.int (iI (amn nz)))]) (st' := []) (by simp only [iI_add, iI_sub, iI_mul, iI_neg]) rfl ?_
      rw [hxa]
      refine x_run70_l hF hX hmy hwi hcl m (n + 1) _ nx2 (nxu nb W B P S nz (amn nz)) _ (by omega) (fun j h0 h1 => ?_) (hN.up hF hmy hS ha hz) ?_ ?_
      · rw [hnx2 j h0 h1, nxu, nxu]; rw [hxa, hnx j h0 h1]
      · have hpw := hmy.w ha.1 hza.1.1 hza.1.2; exact hS.tk (by omega) (by omega) ⟨ha.1, hza.1.1⟩ (by omega) (by omega)
      · intro nx'; have e := hk nx'; rw [crn, if_neg hz] at e; exact e
theorem x_run70_c {K : PK} {d : Nat} {sc : Nat → Int} {ar : Nat → Int → Int} {tx oc : Nat} {rl : Nat → Option Nat} {ou : Nat → Int64} {tl : List PO} {q : Nat × Nat} {nw nb : Int} {W B : Int → Int → Int} (hF : FrOK nw nb W B) (hX : FrX (sc 303) (sc 304) (ar 5) (ar 6) (ar 7) (ar 8) (ar 10) (ar 11) (ar 12) nw nb W B) {P : Int → Int} (hPu : ∀ b, 0 ≤ b → b < nb → ar 70 b = P b) (hmy : PtOK nw nb W B P) : CQ K (d + 3) 29 [.ref 51, .ref 70] (HW sc ar tx oc rl ou tl, q) (fun r g' => r = none ∧ ∃ (S : SV) (pl wi nx sh cl : Int → Int), g' = (HW (usc sc 5112 (sT (crn nb W B P 36 S (nx0 nb W B P (sL S))))) (usc (usc (usc (usc (usc (usc (usc (usc (usc (usc (usc ar 52 pl) 53 wi) 54 nx) 55 (sL (crn nb W B P 36 S (nx0 nb W B P (sL S))))) 56 (sF (crn nb W B P 36 S (nx0 nb W B P (sL S))))) 57 sh) 58 cl) 59 (sS (crn nb W B P 36 S (nx0 nb W B P (sL S))))) 60 (sA (crn nb W B P 36 S (nx0 nb W B P (sL S))))) 61 (sB (crn nb W B P 36 S (nx0 nb W B P (sL S))))) 62 (sC (crn nb W B P 36 S (nx0 nb W B P (sL S))))) tx oc rl ou tl, q) ∧ SIn nw nb W S ∧ (∀ j, 0 ≤ j → j < 3 → pl j = xpl nb B P j) ∧ (∀ j, 0 ≤ j → j < 3 → wi j = xwi nb B P j) ∧ (∀ j, 0 ≤ j → j < 3 → sh j = if j < nb then shk nb W B P j else 0) ∧ (∀ j, 0 ≤ j → j < nb → bkv nb B P j = 0 → cl j = clb nb W B P j)) := by
  have hn := hF.1
  have hm1 := hX.1
  have hm2 := hX.2.1
  refine CQ.of (own := 4) (n := 4) (ini := false) (rt := none) (cd := cd29) (by decide +kernel) rfl (by decide +kernel) rfl (Nat.le_of_ble_eq_true rfl) ?_
  refine RQ.seg 2 (pc' := 2) (L' := [some (.ref 51), some (.ref 70), none, none]) (st' := [.ref 70, .ref 51]) (g1 := (HW sc ar tx oc rl ou tl, q)) rfl ?_
  refine RQ.callQ rfl rfl (x_sf70 hF hX hPu hmy) (fun rv g1 hc => ?_)
  obtain ⟨rfl, pl, wi, rfl, hpw⟩ := hc
  have hpl : ∀ j, 0 ≤ j → j < 3 → pl j = xpl nb B P j := fun j h0 h1 => (hpw j h0 h1).1
  have hwi : ∀ j, 0 ≤ j → j < 3 → wi j = xwi nb B P j := fun j h0 h1 => (hpw j h0 h1).2
  refine RQ.seg 1 (pc' := 6) (L' := [some (.ref 51), some (.ref 70), none, none]) (st' := [.ref 51]) (g1 := (HW sc (usc (usc ar 52 pl) 53 wi) tx oc rl ou tl, q)) rfl ?_
  refine RQ.callQ rfl rfl (x_shakeAll (sc := sc) (ar := usc (usc ar 52 pl) 53 wi) hF hX hmy hpl hwi) (fun rv g1 hc => ?_)
  obtain ⟨rfl, sh, rfl, hsh⟩ := hc
  refine RQ.seg 1 (pc' := 10) (L' := [some (.ref 51), some (.ref 70), none, none]) (st' := [.ref 51]) (g1 := (HW sc (usc (usc (usc ar 52 pl) 53 wi) 57 sh) tx oc rl ou tl, q)) rfl ?_
  refine RQ.callQ rfl rfl (x_begin (sc := sc) (ar := ar) hF hX hmy hwi hsh) (fun rv g1 hc => ?_)
  obtain ⟨rfl, S, nx, cl, rfl, hI, hnx, hcl⟩ := hc
  refine RQ.seg 2 (pc' := 15) (L' := [some (.ref 51), some (.ref 70), some (.int (iI 0)), none]) (st' := []) (g1 := (HW (usc sc 5112 (sT S)) (usc (usc (usc (usc (usc (usc (usc (usc (usc (usc (usc ar 52 pl) 53 wi) 54 nx) 55 (sL S)) 56 (sF S)) 57 sh) 58 cl) 59 (sS S)) 60 (sA S)) 61 (sB S)) 62 (sC S)) tx oc rl ou tl, q)) rfl ?_
  refine x_run70_l (sc := sc) (ar := ar) hF hX hmy hwi hcl 36 0 S nx (nx0 nb W B P (sL S)) _ (by omega) hnx (NOK.in hF hmy (fun j h0 h1 => rfl)) (hI.ok hF) (fun nx' => ?_)
  exact ⟨rfl, S, pl, wi, nx', sh, cl, rfl, hI, hpl, hwi, hsh, hcl⟩
