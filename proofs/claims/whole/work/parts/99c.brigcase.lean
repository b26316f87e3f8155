/-! the law's case of brigade -/
def vB (ar : Nat → Int → Int) (b j : Int) : Int := if j < 3 then (if b = 0 then ar 10 j else if b = 1 then ar 11 j else ar 12 j) else if j = 3 then ar 33 b else if j = 4 then ar 37 b else ar 38 b
section XBr
variable {K : PK} {d : Nat} {sc : Nat → Int} {ar : Nat → Int → Int} {tx oc : Nat} {rl : Nat → Option Nat} {ou : Nat → Int64} {tl : List PO} {q : Nat × Nat}
theorem x_brig_00 (hn : 0 ≤ sc 304 ∧ sc 304 ≤ 3) (hP : 0 < sc 304) : CallR K (d + 2) 109 [.ref 0, .int (iI 0), .int (iI 0)] (HW sc ar tx oc rl ou tl, q) (some (.int (iI (ar 10 0)))) (HW sc ar tx oc rl ou tl, q) := by
  refine CallR.of (own := 10) (n := 3) (ini := false) (rt := (some .int)) (cd := cd109) (by decide +kernel) rfl (by decide +kernel) rfl (Nat.le_of_ble_eq_true rfl) ?_
  refine Runs.seg 2 (pc' := 2) (L' := [some (.ref 0), some (.int (iI 0)), some (.int (iI 0))]) (st' := [.int (iI 0), .ref 0]) (g1 := (HW sc ar tx oc rl ou tl, q)) rfl ?_
  refine Runs.call rfl rfl (x_isBr_t (d := d) (b := 0) (by omega) hn (by omega)) ?_
  refine Runs.seg 15 (pc' := 93) (L' := [some (.ref 0), some (.int (iI 0)), some (.int (iI 0))]) (st' := [.int (iI (ar 10 0))]) (g1 := (HW sc ar tx oc rl ou tl, q)) rfl ?_
  exact Runs.ret rfl rfl
theorem x_brig_01 (hn : 0 ≤ sc 304 ∧ sc 304 ≤ 3) (hP : 0 < sc 304) : CallR K (d + 2) 109 [.ref 0, .int (iI 0), .int (iI 1)] (HW sc ar tx oc rl ou tl, q) (some (.int (iI (ar 10 1)))) (HW sc ar tx oc rl ou tl, q) := by
  refine CallR.of (own := 10) (n := 3) (ini := false) (rt := (some .int)) (cd := cd109) (by decide +kernel) rfl (by decide +kernel) rfl (Nat.le_of_ble_eq_true rfl) ?_
  refine Runs.seg 2 (pc' := 2) (L' := [some (.ref 0), some (.int (iI 0)), some (.int (iI 1))]) (st' := [.int (iI 0), .ref 0]) (g1 := (HW sc ar tx oc rl ou tl, q)) rfl ?_
  refine Runs.call rfl rfl (x_isBr_t (d := d) (b := 0) (by omega) hn (by omega)) ?_
  refine Runs.seg 15 (pc' := 93) (L' := [some (.ref 0), some (.int (iI 0)), some (.int (iI 1))]) (st' := [.int (iI (ar 10 1))]) (g1 := (HW sc ar tx oc rl ou tl, q)) rfl ?_
  exact Runs.ret rfl rfl
theorem x_brig_02 (hn : 0 ≤ sc 304 ∧ sc 304 ≤ 3) (hP : 0 < sc 304) : CallR K (d + 2) 109 [.ref 0, .int (iI 0), .int (iI 2)] (HW sc ar tx oc rl ou tl, q) (some (.int (iI (ar 10 2)))) (HW sc ar tx oc rl ou tl, q) := by
  refine CallR.of (own := 10) (n := 3) (ini := false) (rt := (some .int)) (cd := cd109) (by decide +kernel) rfl (by decide +kernel) rfl (Nat.le_of_ble_eq_true rfl) ?_
  refine Runs.seg 2 (pc' := 2) (L' := [some (.ref 0), some (.int (iI 0)), some (.int (iI 2))]) (st' := [.int (iI 0), .ref 0]) (g1 := (HW sc ar tx oc rl ou tl, q)) rfl ?_
  refine Runs.call rfl rfl (x_isBr_t (d := d) (b := 0) (by omega) hn (by omega)) ?_
  refine Runs.seg 15 (pc' := 93) (L' := [some (.ref 0), some (.int (iI 0)), some (.int (iI 2))]) (st' := [.int (iI (ar 10 2))]) (g1 := (HW sc ar tx oc rl ou tl, q)) rfl ?_
  exact Runs.ret rfl rfl
theorem x_brig_03 (hn : 0 ≤ sc 304 ∧ sc 304 ≤ 3) (hP : 0 < sc 304) : CallR K (d + 2) 109 [.ref 0, .int (iI 0), .int (iI 3)] (HW sc ar tx oc rl ou tl, q) (some (.int (iI (ar 33 0)))) (HW sc ar tx oc rl ou tl, q) := by
  refine CallR.of (own := 10) (n := 3) (ini := false) (rt := (some .int)) (cd := cd109) (by decide +kernel) rfl (by decide +kernel) rfl (Nat.le_of_ble_eq_true rfl) ?_
  refine Runs.seg 2 (pc' := 2) (L' := [some (.ref 0), some (.int (iI 0)), some (.int (iI 3))]) (st' := [.int (iI 0), .ref 0]) (g1 := (HW sc ar tx oc rl ou tl, q)) rfl ?_
  refine Runs.call rfl rfl (x_isBr_t (d := d) (b := 0) (by omega) hn (by omega)) ?_
  refine Runs.seg 13 (pc' := 61) (L' := [some (.ref 0), some (.int (iI 0)), some (.int (iI 3))]) (st' := [.int (iI (ar 33 0))]) (g1 := (HW sc ar tx oc rl ou tl, q)) rfl ?_
  exact Runs.ret rfl rfl
theorem x_brig_04 (hn : 0 ≤ sc 304 ∧ sc 304 ≤ 3) (hP : 0 < sc 304) : CallR K (d + 2) 109 [.ref 0, .int (iI 0), .int (iI 4)] (HW sc ar tx oc rl ou tl, q) (some (.int (iI (ar 37 0)))) (HW sc ar tx oc rl ou tl, q) := by
  refine CallR.of (own := 10) (n := 3) (ini := false) (rt := (some .int)) (cd := cd109) (by decide +kernel) rfl (by decide +kernel) rfl (Nat.le_of_ble_eq_true rfl) ?_
  refine Runs.seg 2 (pc' := 2) (L' := [some (.ref 0), some (.int (iI 0)), some (.int (iI 4))]) (st' := [.int (iI 0), .ref 0]) (g1 := (HW sc ar tx oc rl ou tl, q)) rfl ?_
  refine Runs.call rfl rfl (x_isBr_t (d := d) (b := 0) (by omega) hn (by omega)) ?_
  refine Runs.seg 13 (pc' := 71) (L' := [some (.ref 0), some (.int (iI 0)), some (.int (iI 4))]) (st' := [.int (iI (ar 37 0))]) (g1 := (HW sc ar tx oc rl ou tl, q)) rfl ?_
  exact Runs.ret rfl rfl
theorem x_brig_05 (hn : 0 ≤ sc 304 ∧ sc 304 ≤ 3) (hP : 0 < sc 304) : CallR K (d + 2) 109 [.ref 0, .int (iI 0), .int (iI 5)] (HW sc ar tx oc rl ou tl, q) (some (.int (iI (ar 38 0)))) (HW sc ar tx oc rl ou tl, q) := by
  refine CallR.of (own := 10) (n := 3) (ini := false) (rt := (some .int)) (cd := cd109) (by decide +kernel) rfl (by decide +kernel) rfl (Nat.le_of_ble_eq_true rfl) ?_
  refine Runs.seg 2 (pc' := 2) (L' := [some (.ref 0), some (.int (iI 0)), some (.int (iI 5))]) (st' := [.int (iI 0), .ref 0]) (g1 := (HW sc ar tx oc rl ou tl, q)) rfl ?_
  refine Runs.call rfl rfl (x_isBr_t (d := d) (b := 0) (by omega) hn (by omega)) ?_
  refine Runs.seg 13 (pc' := 81) (L' := [some (.ref 0), some (.int (iI 0)), some (.int (iI 5))]) (st' := [.int (iI (ar 38 0))]) (g1 := (HW sc ar tx oc rl ou tl, q)) rfl ?_
  exact Runs.ret rfl rfl
theorem x_brig_10 (hn : 0 ≤ sc 304 ∧ sc 304 ≤ 3) (hP : 1 < sc 304) : CallR K (d + 2) 109 [.ref 0, .int (iI 1), .int (iI 0)] (HW sc ar tx oc rl ou tl, q) (some (.int (iI (ar 11 0)))) (HW sc ar tx oc rl ou tl, q) := by
  refine CallR.of (own := 10) (n := 3) (ini := false) (rt := (some .int)) (cd := cd109) (by decide +kernel) rfl (by decide +kernel) rfl (Nat.le_of_ble_eq_true rfl) ?_
  refine Runs.seg 2 (pc' := 2) (L' := [some (.ref 0), some (.int (iI 1)), some (.int (iI 0))]) (st' := [.int (iI 1), .ref 0]) (g1 := (HW sc ar tx oc rl ou tl, q)) rfl ?_
  refine Runs.call rfl rfl (x_isBr_t (d := d) (b := 1) (by omega) hn (by omega)) ?_
  refine Runs.seg 15 (pc' := 93) (L' := [some (.ref 0), some (.int (iI 1)), some (.int (iI 0))]) (st' := [.int (iI (ar 11 0))]) (g1 := (HW sc ar tx oc rl ou tl, q)) rfl ?_
  exact Runs.ret rfl rfl
theorem x_brig_11 (hn : 0 ≤ sc 304 ∧ sc 304 ≤ 3) (hP : 1 < sc 304) : CallR K (d + 2) 109 [.ref 0, .int (iI 1), .int (iI 1)] (HW sc ar tx oc rl ou tl, q) (some (.int (iI (ar 11 1)))) (HW sc ar tx oc rl ou tl, q) := by
  refine CallR.of (own := 10) (n := 3) (ini := false) (rt := (some .int)) (cd := cd109) (by decide +kernel) rfl (by decide +kernel) rfl (Nat.le_of_ble_eq_true rfl) ?_
  refine Runs.seg 2 (pc' := 2) (L' := [some (.ref 0), some (.int (iI 1)), some (.int (iI 1))]) (st' := [.int (iI 1), .ref 0]) (g1 := (HW sc ar tx oc rl ou tl, q)) rfl ?_
  refine Runs.call rfl rfl (x_isBr_t (d := d) (b := 1) (by omega) hn (by omega)) ?_
  refine Runs.seg 15 (pc' := 93) (L' := [some (.ref 0), some (.int (iI 1)), some (.int (iI 1))]) (st' := [.int (iI (ar 11 1))]) (g1 := (HW sc ar tx oc rl ou tl, q)) rfl ?_
  exact Runs.ret rfl rfl
theorem x_brig_12 (hn : 0 ≤ sc 304 ∧ sc 304 ≤ 3) (hP : 1 < sc 304) : CallR K (d + 2) 109 [.ref 0, .int (iI 1), .int (iI 2)] (HW sc ar tx oc rl ou tl, q) (some (.int (iI (ar 11 2)))) (HW sc ar tx oc rl ou tl, q) := by
  refine CallR.of (own := 10) (n := 3) (ini := false) (rt := (some .int)) (cd := cd109) (by decide +kernel) rfl (by decide +kernel) rfl (Nat.le_of_ble_eq_true rfl) ?_
  refine Runs.seg 2 (pc' := 2) (L' := [some (.ref 0), some (.int (iI 1)), some (.int (iI 2))]) (st' := [.int (iI 1), .ref 0]) (g1 := (HW sc ar tx oc rl ou tl, q)) rfl ?_
  refine Runs.call rfl rfl (x_isBr_t (d := d) (b := 1) (by omega) hn (by omega)) ?_
  refine Runs.seg 15 (pc' := 93) (L' := [some (.ref 0), some (.int (iI 1)), some (.int (iI 2))]) (st' := [.int (iI (ar 11 2))]) (g1 := (HW sc ar tx oc rl ou tl, q)) rfl ?_
  exact Runs.ret rfl rfl
theorem x_brig_13 (hn : 0 ≤ sc 304 ∧ sc 304 ≤ 3) (hP : 1 < sc 304) : CallR K (d + 2) 109 [.ref 0, .int (iI 1), .int (iI 3)] (HW sc ar tx oc rl ou tl, q) (some (.int (iI (ar 33 1)))) (HW sc ar tx oc rl ou tl, q) := by
  refine CallR.of (own := 10) (n := 3) (ini := false) (rt := (some .int)) (cd := cd109) (by decide +kernel) rfl (by decide +kernel) rfl (Nat.le_of_ble_eq_true rfl) ?_
  refine Runs.seg 2 (pc' := 2) (L' := [some (.ref 0), some (.int (iI 1)), some (.int (iI 3))]) (st' := [.int (iI 1), .ref 0]) (g1 := (HW sc ar tx oc rl ou tl, q)) rfl ?_
  refine Runs.call rfl rfl (x_isBr_t (d := d) (b := 1) (by omega) hn (by omega)) ?_
  refine Runs.seg 13 (pc' := 61) (L' := [some (.ref 0), some (.int (iI 1)), some (.int (iI 3))]) (st' := [.int (iI (ar 33 1))]) (g1 := (HW sc ar tx oc rl ou tl, q)) rfl ?_
  exact Runs.ret rfl rfl
theorem x_brig_14 (hn : 0 ≤ sc 304 ∧ sc 304 ≤ 3) (hP : 1 < sc 304) : CallR K (d + 2) 109 [.ref 0, .int (iI 1), .int (iI 4)] (HW sc ar tx oc rl ou tl, q) (some (.int (iI (ar 37 1)))) (HW sc ar tx oc rl ou tl, q) := by
  refine CallR.of (own := 10) (n := 3) (ini := false) (rt := (some .int)) (cd := cd109) (by decide +kernel) rfl (by decide +kernel) rfl (Nat.le_of_ble_eq_true rfl) ?_
  refine Runs.seg 2 (pc' := 2) (L' := [some (.ref 0), some (.int (iI 1)), some (.int (iI 4))]) (st' := [.int (iI 1), .ref 0]) (g1 := (HW sc ar tx oc rl ou tl, q)) rfl ?_
  refine Runs.call rfl rfl (x_isBr_t (d := d) (b := 1) (by omega) hn (by omega)) ?_
  refine Runs.seg 13 (pc' := 71) (L' := [some (.ref 0), some (.int (iI 1)), some (.int (iI 4))]) (st' := [.int (iI (ar 37 1))]) (g1 := (HW sc ar tx oc rl ou tl, q)) rfl ?_
  exact Runs.ret rfl rfl
theorem x_brig_15 (hn : 0 ≤ sc 304 ∧ sc 304 ≤ 3) (hP : 1 < sc 304) : CallR K (d + 2) 109 [.ref 0, .int (iI 1), .int (iI 5)] (HW sc ar tx oc rl ou tl, q) (some (.int (iI (ar 38 1)))) (HW sc ar tx oc rl ou tl, q) := by
  refine CallR.of (own := 10) (n := 3) (ini := false) (rt := (some .int)) (cd := cd109) (by decide +kernel) rfl (by decide +kernel) rfl (Nat.le_of_ble_eq_true rfl) ?_
  refine Runs.seg 2 (pc' := 2) (L' := [some (.ref 0), some (.int (iI 1)), some (.int (iI 5))]) (st' := [.int (iI 1), .ref 0]) (g1 := (HW sc ar tx oc rl ou tl, q)) rfl ?_
  refine Runs.call rfl rfl (x_isBr_t (d := d) (b := 1) (by omega) hn (by omega)) ?_
  refine Runs.seg 13 (pc' := 81) (L' := [some (.ref 0), some (.int (iI 1)), some (.int (iI 5))]) (st' := [.int (iI (ar 38 1))]) (g1 := (HW sc ar tx oc rl ou tl, q)) rfl ?_
  exact Runs.ret rfl rfl
theorem x_brig_20 (hn : 0 ≤ sc 304 ∧ sc 304 ≤ 3) (hP : 2 < sc 304) : CallR K (d + 2) 109 [.ref 0, .int (iI 2), .int (iI 0)] (HW sc ar tx oc rl ou tl, q) (some (.int (iI (ar 12 0)))) (HW sc ar tx oc rl ou tl, q) := by
  refine CallR.of (own := 10) (n := 3) (ini := false) (rt := (some .int)) (cd := cd109) (by decide +kernel) rfl (by decide +kernel) rfl (Nat.le_of_ble_eq_true rfl) ?_
  refine Runs.seg 2 (pc' := 2) (L' := [some (.ref 0), some (.int (iI 2)), some (.int (iI 0))]) (st' := [.int (iI 2), .ref 0]) (g1 := (HW sc ar tx oc rl ou tl, q)) rfl ?_
  refine Runs.call rfl rfl (x_isBr_t (d := d) (b := 2) (by omega) hn (by omega)) ?_
  refine Runs.seg 15 (pc' := 93) (L' := [some (.ref 0), some (.int (iI 2)), some (.int (iI 0))]) (st' := [.int (iI (ar 12 0))]) (g1 := (HW sc ar tx oc rl ou tl, q)) rfl ?_
  exact Runs.ret rfl rfl
theorem x_brig_21 (hn : 0 ≤ sc 304 ∧ sc 304 ≤ 3) (hP : 2 < sc 304) : CallR K (d + 2) 109 [.ref 0, .int (iI 2), .int (iI 1)] (HW sc ar tx oc rl ou tl, q) (some (.int (iI (ar 12 1)))) (HW sc ar tx oc rl ou tl, q) := by
  refine CallR.of (own := 10) (n := 3) (ini := false) (rt := (some .int)) (cd := cd109) (by decide +kernel) rfl (by decide +kernel) rfl (Nat.le_of_ble_eq_true rfl) ?_
  refine Runs.seg 2 (pc' := 2) (L' := [some (.ref 0), some (.int (iI 2)), some (.int (iI 1))]) (st' := [.int (iI 2), .ref 0]) (g1 := (HW sc ar tx oc rl ou tl, q)) rfl ?_
  refine Runs.call rfl rfl (x_isBr_t (d := d) (b := 2) (by omega) hn (by omega)) ?_
  refine Runs.seg 15 (pc' := 93) (L' := [some (.ref 0), some (.int (iI 2)), some (.int (iI 1))]) (st' := [.int (iI (ar 12 1))]) (g1 := (HW sc ar tx oc rl ou tl, q)) rfl ?_
  exact Runs.ret rfl rfl
theorem x_brig_22 (hn : 0 ≤ sc 304 ∧ sc 304 ≤ 3) (hP : 2 < sc 304) : CallR K (d + 2) 109 [.ref 0, .int (iI 2), .int (iI 2)] (HW sc ar tx oc rl ou tl, q) (some (.int (iI (ar 12 2)))) (HW sc ar tx oc rl ou tl, q) := by
  refine CallR.of (own := 10) (n := 3) (ini := false) (rt := (some .int)) (cd := cd109) (by decide +kernel) rfl (by decide +kernel) rfl (Nat.le_of_ble_eq_true rfl) ?_
  refine Runs.seg 2 (pc' := 2) (L' := [some (.ref 0), some (.int (iI 2)), some (.int (iI 2))]) (st' := [.int (iI 2), .ref 0]) (g1 := (HW sc ar tx oc rl ou tl, q)) rfl ?_
  refine Runs.call rfl rfl (x_isBr_t (d := d) (b := 2) (by omega) hn (by omega)) ?_
  refine Runs.seg 15 (pc' := 93) (L' := [some (.ref 0), some (.int (iI 2)), some (.int (iI 2))]) (st' := [.int (iI (ar 12 2))]) (g1 := (HW sc ar tx oc rl ou tl, q)) rfl ?_
  exact Runs.ret rfl rfl
theorem x_brig_23 (hn : 0 ≤ sc 304 ∧ sc 304 ≤ 3) (hP : 2 < sc 304) : CallR K (d + 2) 109 [.ref 0, .int (iI 2), .int (iI 3)] (HW sc ar tx oc rl ou tl, q) (some (.int (iI (ar 33 2)))) (HW sc ar tx oc rl ou tl, q) := by
  refine CallR.of (own := 10) (n := 3) (ini := false) (rt := (some .int)) (cd := cd109) (by decide +kernel) rfl (by decide +kernel) rfl (Nat.le_of_ble_eq_true rfl) ?_
  refine Runs.seg 2 (pc' := 2) (L' := [some (.ref 0), some (.int (iI 2)), some (.int (iI 3))]) (st' := [.int (iI 2), .ref 0]) (g1 := (HW sc ar tx oc rl ou tl, q)) rfl ?_
  refine Runs.call rfl rfl (x_isBr_t (d := d) (b := 2) (by omega) hn (by omega)) ?_
  refine Runs.seg 13 (pc' := 61) (L' := [some (.ref 0), some (.int (iI 2)), some (.int (iI 3))]) (st' := [.int (iI (ar 33 2))]) (g1 := (HW sc ar tx oc rl ou tl, q)) rfl ?_
  exact Runs.ret rfl rfl
theorem x_brig_24 (hn : 0 ≤ sc 304 ∧ sc 304 ≤ 3) (hP : 2 < sc 304) : CallR K (d + 2) 109 [.ref 0, .int (iI 2), .int (iI 4)] (HW sc ar tx oc rl ou tl, q) (some (.int (iI (ar 37 2)))) (HW sc ar tx oc rl ou tl, q) := by
  refine CallR.of (own := 10) (n := 3) (ini := false) (rt := (some .int)) (cd := cd109) (by decide +kernel) rfl (by decide +kernel) rfl (Nat.le_of_ble_eq_true rfl) ?_
  refine Runs.seg 2 (pc' := 2) (L' := [some (.ref 0), some (.int (iI 2)), some (.int (iI 4))]) (st' := [.int (iI 2), .ref 0]) (g1 := (HW sc ar tx oc rl ou tl, q)) rfl ?_
  refine Runs.call rfl rfl (x_isBr_t (d := d) (b := 2) (by omega) hn (by omega)) ?_
  refine Runs.seg 13 (pc' := 71) (L' := [some (.ref 0), some (.int (iI 2)), some (.int (iI 4))]) (st' := [.int (iI (ar 37 2))]) (g1 := (HW sc ar tx oc rl ou tl, q)) rfl ?_
  exact Runs.ret rfl rfl
theorem x_brig_25 (hn : 0 ≤ sc 304 ∧ sc 304 ≤ 3) (hP : 2 < sc 304) : CallR K (d + 2) 109 [.ref 0, .int (iI 2), .int (iI 5)] (HW sc ar tx oc rl ou tl, q) (some (.int (iI (ar 38 2)))) (HW sc ar tx oc rl ou tl, q) := by
  refine CallR.of (own := 10) (n := 3) (ini := false) (rt := (some .int)) (cd := cd109) (by decide +kernel) rfl (by decide +kernel) rfl (Nat.le_of_ble_eq_true rfl) ?_
  refine Runs.seg 2 (pc' := 2) (L' := [some (.ref 0), some (.int (iI 2)), some (.int (iI 5))]) (st' := [.int (iI 2), .ref 0]) (g1 := (HW sc ar tx oc rl ou tl, q)) rfl ?_
  refine Runs.call rfl rfl (x_isBr_t (d := d) (b := 2) (by omega) hn (by omega)) ?_
  refine Runs.seg 13 (pc' := 81) (L' := [some (.ref 0), some (.int (iI 2)), some (.int (iI 5))]) (st' := [.int (iI (ar 38 2))]) (g1 := (HW sc ar tx oc rl ou tl, q)) rfl ?_
  exact Runs.ret rfl rfl
theorem x_brig (hn : 0 ≤ sc 304 ∧ sc 304 ≤ 3) {b j : Int} (hb : 0 ≤ b ∧ b < sc 304) (hj : 0 ≤ j ∧ j ≤ 5) : CallR K (d + 2) 109 [.ref 0, .int (iI b), .int (iI j)] (HW sc ar tx oc rl ou tl, q) (some (.int (iI (vB ar b j)))) (HW sc ar tx oc rl ou tl, q) := by
  rcases (show b = 0 ∨ b = 1 ∨ b = 2 by omega) with rfl | rfl | rfl <;> rcases (show j = 0 ∨ j = 1 ∨ j = 2 ∨ j = 3 ∨ j = 4 ∨ j = 5 by omega) with rfl | rfl | rfl | rfl | rfl | rfl
  · exact x_brig_00 hn hb.2
  · exact x_brig_01 hn hb.2
  · exact x_brig_02 hn hb.2
  · exact x_brig_03 hn hb.2
  · exact x_brig_04 hn hb.2
  · exact x_brig_05 hn hb.2
  · exact x_brig_10 hn hb.2
  · exact x_brig_11 hn hb.2
  · exact x_brig_12 hn hb.2
  · exact x_brig_13 hn hb.2
  · exact x_brig_14 hn hb.2
  · exact x_brig_15 hn hb.2
  · exact x_brig_20 hn hb.2
  · exact x_brig_21 hn hb.2
  · exact x_brig_22 hn hb.2
  · exact x_brig_23 hn hb.2
  · exact x_brig_24 hn hb.2
  · exact x_brig_25 hn hb.2
theorem m_thrown {z : Int} (h : sc 8000 = z) : CallR K (d + 1) 149 [.ref 80] (HW sc ar tx oc rl ou tl, q) (some (.int (iI z))) (HW sc ar tx oc rl ou tl, q) := by
  subst h
  refine CallR.of (own := 11) (n := 1) (ini := false) (rt := (some .int)) (cd := cd149) (by decide +kernel) rfl (by decide +kernel) rfl (Nat.le_of_ble_eq_true rfl) ?_
  refine Runs.seg 2 (pc' := 4) (L' := [some (.ref 80)]) (st' := [.int (iI (sc 8000))]) (g1 := (HW sc ar tx oc rl ou tl, q)) rfl ?_
  exact Runs.ret rfl rfl
end XBr
theorem vB_eq {i : Nat} {tp : List Int} {nw nb : Int} {W B : Int → Int → Int} {Z Zk : SS} {rs : List (List Int)} {J : Nat → Nat} {r e : Int → Int} {n : Nat} {sc : Nat → Int} {ar : Nat → Int → Int} {oc : Nat} {rl : Nat → Option Nat} {tl : List PO} {q : Nat × Nat} (h : INx i tp nw nb W B Z Zk rs J r e n sc ar oc rl tl q) {b j : Int} (hb : 0 ≤ b ∧ b < nb) (hj : 0 ≤ j ∧ j ≤ 5) : vB ar b j = sBrig (fun b j => ar 86 (3 * b + j)) (ar 91) (ar 92) (ar 93) b j := by
  have hF := h.F
  have hX := h.X
  have hM := h.M
  obtain ⟨-, -, -, -, -, hgx, hgm, -⟩ := h
  have hnb : nb ≤ 3 := hF.1.2.2.2
  have hb3 : b < 3 := by omega
  have s1 := hgx.1.2.1 b hb.1 hb3
  have s2 := hgm.1.2.1 b hb.1 hb3
  have n1 := hgx.2.2.2.1 b hb.1 hb3
  have n2 := hgm.2.2.2.1 b hb.1 hb3
  have m1 := hM.2.2.2 b hb.1 hb.2
  unfold vB sBrig
  by_cases h3 : j < 3
  · rw [if_pos h3, if_pos h3]
    have x1 := hX.2.2.2 j hj.1 h3
    show (if b = 0 then ar 10 j else if b = 1 then ar 11 j else ar 12 j) = ar 86 (3 * b + j)
    have hB : ar 86 (3 * b + j) = B b j := by
      rcases (show j = 0 ∨ j = 1 ∨ j = 2 by omega) with rfl | rfl | rfl
      · rw [show 3 * b + 0 = 3 * b by omega]; exact m1.1
      · exact m1.2.1
      · exact m1.2.2
    rw [hB]
    rcases (show b = 0 ∨ b = 1 ∨ b = 2 by omega) with rfl | rfl | rfl
    · rw [if_pos rfl]; exact x1.1 hb.2
    · rw [if_neg (by omega), if_pos rfl]; exact x1.2.1 hb.2
    · rw [if_neg (by omega), if_neg (by omega)]; exact x1.2.2 hb.2
  · rw [if_neg h3, if_neg h3]
    by_cases h4 : j = 3
    · rw [if_pos h4, if_pos h4, s1, s2]
    · rw [if_neg h4, if_neg h4]
      by_cases h5 : j = 4
      · rw [if_pos h5, if_pos h5, n1.1, n2.1]
      · rw [if_neg h5, if_neg h5, n1.2, n2.2]
theorem INx.th {i : Nat} {tp : List Int} {nw nb : Int} {W B : Int → Int → Int} {Z Zk : SS} {rs : List (List Int)} {J : Nat → Nat} {r e : Int → Int} {n : Nat} {sc : Nat → Int} {ar : Nat → Int → Int} {oc : Nat} {rl : Nat → Option Nat} {tl : List PO} {q : Nat × Nat} (h : INx i tp nw nb W B Z Zk rs J r e n sc ar oc rl tl q) : INx (i + 1) tp nw nb W B Z Zk rs J r e n sc ar oc rl tl (q.1 + 1, q.2 + 6) := by
  obtain ⟨h1, h2, h3, h4, h5, h6, h7, h8, h9, h10, h11, h12, h13, h14, h15⟩ := h
  refine ⟨h1, h2, h3, h4, h5, h6, h7, h8.up, h9.up, h10, h11, h12, h13, h14, ?_⟩
  obtain ⟨a1, a2⟩ := h15
  exact ⟨by show q.1 + 1 ≤ _; omega, by show q.2 + 6 ≤ _; omega⟩
/-- what the call of the law's brigade does to a judgement -/
def BrX (K : PK) (X : Nat → PL → List Value → PG → Prop) : Prop :=
  (∀ (L : PL) (g : PG) (x y v : Int32) (ou : Nat → Int64) (fs : List Value), CallR K 59 109 [.ref 0, .int x, .int y] g (some (.int v)) g → g.1[0]? = some (.inr (10, fs)) → g.1[117]? = some (.inl (2, 1, .inr (.inl ou))) → X 349 L [.int (iI 0)] (gN g ou v) → X 346 L [.ref 117, .int y, .int x, .ref 0] g) ∧
  (∀ (L : PL) (g : PG) (x y : Int), ThB K x y g → X 349 L [.int (iI 1)] (gT g) → X 346 L [.ref 117, .int (iI y), .int (iI x), .ref 0] g)
theorem lw_brig {K : PK} {X : Nat → PL → List Value → PG → Prop} (H : Bk K X) (HB : BrX K X) {N : Nat} {f : Nat → Int32} (hK : K 19 = some (N, f)) (hN : N ≤ 3072) (n : Nat) (g : PG) (hI : INV n g) (_ : n ≤ 600) (i : Int) (hi : 0 ≤ i ∧ i + 6 ≤ N) (e5 e6 : Option Value) (hx : ∀ g' e5 e6, INV (n + 1) g' → X 1215 (Lw i e5 e6) [] g') : X 332 (Lw i e5 e6) [] g := by
  obtain ⟨z1, e7, q1⟩ := iI_ex (f (i + 1).toNat)
  obtain ⟨z2, e8, q2⟩ := iI_ex (f (i + 2).toNat)
  obtain ⟨sc, ar, tx, oc, rl, ou, tl, q, tp, nw, nb, W, B, Z, Zk, rs, J, r, e, n0, rfl, h⟩ := hI
  have hF := h.F
  have hX := h.X
  have hM := h.M
  have hn : 0 ≤ sc 304 ∧ sc 304 ≤ 3 := by rw [hX.2.1]; exact ⟨hF.1.2.2.1, hF.1.2.2.2⟩
  have hm : 0 ≤ sc 8025 ∧ sc 8025 ≤ 3 := by rw [hM.2.1]; exact ⟨hF.1.2.2.1, hF.1.2.2.2⟩
  refine H.seg 1 (pc' := 333) (L' := Lw i e5 e6) (st' := [.ref 0]) (g1 := _) rfl ?_
  refine H.ld hK hN (k := 1) (pc' := 338) rfl rfl (by omega) ?_
  refine H.ld hK hN (k := 2) (pc' := 344) rfl rfl (by omega) ?_
  refine H.seg 1 (pc' := 346) (L' := Lw i e5 e6) (st' := [.ref 117, .int (f (i + 2).toNat), .int (f (i + 1).toNat), .ref 0]) (g1 := _) rfl ?_
  by_cases hP : (0 ≤ z1 ∧ z1 < nb) ∧ 0 ≤ z2 ∧ z2 ≤ 5
  · rw [e7, e8]
    refine HB.1 _ _ _ _ _ ou _ (x_brig (K := K) (d := 57) hn (by rw [hX.2.1]; exact hP.1) hP.2) rfl rfl ?_
    have hg : gN (HW sc ar tx oc rl ou tl, q) ou (iI (vB ar z1 z2)) = (HW sc ar tx oc rl (vp_updL ou 0 (iI (vB ar z1 z2)).toInt64) tl, q) := rfl
    rw [hg]
    refine H.seg 2 (pc' := 352) (L' := Lw i (some (.int (iI 0))) e6) (st' := [.ref 80]) (g1 := _) rfl ?_
    refine H.ld hK hN (k := 1) (pc' := 357) rfl rfl (by omega) ?_
    refine H.ld hK hN (k := 2) (pc' := 363) rfl rfl (by omega) ?_
    rw [e7, e8]
    have hm1 := m_brig_t (K := K) (d := 58) (tx := tx) (oc := oc) (rl := rl) (ou := vp_updL ou 0 (iI (vB ar z1 z2)).toInt64) (tl := tl) (q := q) (ar := ar) (b := z1) (j := z2) q1 q2 hm (by rw [hM.2.1]; exact hP)
    rw [← vB_eq h hP.1 hP.2] at hm1
    refine H.callV rfl rfl rfl rfl rfl rfl hm1 ?_
    refine H.seg 2 (pc' := 370) (L' := Lw i (some (.int (iI 0))) (some (.int (iI (vB ar z1 z2))))) (st' := [.ref 80]) (g1 := _) rfl ?_
    refine H.callV rfl rfl rfl rfl rfl rfl (m_thrown (K := K) (d := 59) (z := 0) rfl) ?_
    refine H.seg 1 (pc' := 375) (L' := Lw i (some (.int (iI 0))) (some (.int (iI (vB ar z1 z2))))) (st' := [.int (iI 0), .int (iI 0)]) (g1 := _) rfl ?_
    refine H.eq (t := 380) rfl rfl ?_
    refine H.seg 7 (pc' := 391) (L' := Lw i (some (.int (iI 0))) (some (.int (iI (vB ar z1 z2))))) (st' := [.long (iI (vB ar z1 z2)).toInt64, .long (iI (vB ar z1 z2)).toInt64]) (g1 := _) rfl ?_
    refine H.1 391 _ _ _ .lcmp 1 (392, Lw i (some (.int (iI 0))) (some (.int (iI (vB ar z1 z2)))), [.int 0], (HW (usc sc 8000 0) ar tx oc rl (vp_updL ou 0 (iI (vB ar z1 z2)).toInt64) tl, q)) rfl ?_ ?_
    · have hz : ∀ v : Int64, lg_cmp v v = 0 := fun v => by simp [lg_cmp]
      show some (391 + 1, _, [Value.int (lg_cmp _ _)], _) = some _
      rw [hz]
    · refine H.seg (pc := 392) (L := Lw i (some (.int (iI 0))) (some (.int (iI (vB ar z1 z2))))) (st := [.int 0]) 2 (pc' := 1215) (L' := Lw i (some (.int (iI 0))) (some (.int (iI (vB ar z1 z2))))) (st' := []) (g1 := (HW (usc sc 8000 0) ar tx oc rl (vp_updL ou 0 (iI (vB ar z1 z2)).toInt64) tl, q)) rfl ?_
      refine hx _ _ _ ⟨_, ar, tx, oc, rl, _, tl, q, tp, nw, nb, W, B, Z, Zk, rs, J, r, e, n0, rfl, ?_⟩
      exact (h.sm (sc' := usc sc 8000 0) (ar' := ar) (Same.us rfl Same.rf) Same.rf).up
  · rw [e7, e8]
    have hth : ThB K z1 z2 (HW sc ar tx oc rl ou tl, q) := by
      refine ⟨?_, q2.1, q2.2, ⟨_, rfl⟩⟩
      by_cases hb : 0 ≤ z1 ∧ z1 < nb
      · exact Or.inr ⟨x_isBr_t (K := K) (d := 57) q1 hn (by rw [hX.2.1]; exact hb), by omega⟩
      · exact Or.inl (x_isBr_f (K := K) (d := 57) q1 hn (by rw [hX.2.1]; exact hb))
    refine HB.2 _ _ _ _ hth ?_
    have hg : gT (HW sc ar tx oc rl ou tl, q) = (HW sc ar tx oc rl ou tl, q.1 + 1, q.2 + 6) := rfl
    rw [hg]
    refine H.seg 2 (pc' := 352) (L' := Lw i (some (.int (iI 1))) e6) (st' := [.ref 80]) (g1 := _) rfl ?_
    refine H.ld hK hN (k := 1) (pc' := 357) rfl rfl (by omega) ?_
    refine H.ld hK hN (k := 2) (pc' := 363) rfl rfl (by omega) ?_
    rw [e7, e8]
    refine H.callV rfl rfl rfl rfl rfl rfl (m_brig_f (K := K) (d := 58) q1 q2 hm (by rw [hM.2.1]; exact hP)) ?_
    refine H.seg 2 (pc' := 370) (L' := Lw i (some (.int (iI 1))) (some (.int (iI 0)))) (st' := [.ref 80]) (g1 := _) rfl ?_
    refine H.callV rfl rfl rfl rfl rfl rfl (m_thrown (K := K) (d := 59) (z := 1) rfl) ?_
    refine H.seg 1 (pc' := 375) (L' := Lw i (some (.int (iI 1))) (some (.int (iI 0)))) (st' := [.int (iI 1), .int (iI 1)]) (g1 := _) rfl ?_
    refine H.eq (t := 380) rfl rfl ?_
    refine H.seg 3 (pc' := 1215) (L' := Lw i (some (.int (iI 1))) (some (.int (iI 0)))) (st' := []) (g1 := _) rfl ?_
    refine hx _ _ _ ⟨_, ar, tx, oc, rl, ou, tl, (q.1 + 1, q.2 + 6), tp, nw, nb, W, B, Z, Zk, rs, J, r, e, n0, rfl, ?_⟩
    exact (h.sm (sc' := usc sc 8000 1) (ar' := ar) (Same.us rfl Same.rf) Same.rf).th
