/-! what is reckoned stays within its bounds, by wip/tools -/
theorem x_minL {K : PK} {d : Nat} {g : PG} {a b : Int} (ra : -9223372036854775808 ≤ a ∧ a < 9223372036854775808) (rb : -9223372036854775808 ≤ b ∧ b < 9223372036854775808) : CallR K (d + 1) 242 [.long (lL a), .long (lL b)] g (some (.long (lL (if b < a then b else a)))) g := by
  apply CQ.x
  refine CQ.of (own := 14) (n := 4) (ini := false) (rt := (some .long)) (cd := cd242) (by decide +kernel) rfl (by decide +kernel) rfl (Nat.le_of_ble_eq_true rfl) ?_
  refine RQ.seg 2 (pc' := 2) (L' := [some (.long (lL a)), none, some (.long (lL b)), none]) (st' := [.long (lL b), .long (lL a)]) (g1 := g) rfl ?_
  refine RQ.lcmp (a := a) (b := b) rfl rfl rfl (by omega) (by omega) (fun (h1 : b < a) => ?_) (fun (h1 : a = b) => ?_) (fun (h1 : a < b) => ?_)
  · skip
    refine RQ.seg 2 (pc' := 11) (L' := [some (.long (lL a)), none, some (.long (lL b)), none]) (st' := [.long (lL b)]) (g1 := g) rfl ?_
    refine RQ.ret rfl rfl ?_
    refine ⟨?_, rfl⟩
    first | rw [if_pos (by omega)] | rw [if_neg (by omega)]
  · skip
    refine RQ.seg 3 (pc' := 11) (L' := [some (.long (lL a)), none, some (.long (lL b)), none]) (st' := [.long (lL a)]) (g1 := g) rfl ?_
    refine RQ.ret rfl rfl ?_
    refine ⟨?_, rfl⟩
    first | rw [if_pos (by omega)] | rw [if_neg (by omega)]
  · skip
    refine RQ.seg 3 (pc' := 11) (L' := [some (.long (lL a)), none, some (.long (lL b)), none]) (st' := [.long (lL a)]) (g1 := g) rfl ?_
    refine RQ.ret rfl rfl ?_
    refine ⟨?_, rfl⟩
    first | rw [if_pos (by omega)] | rw [if_neg (by omega)]
theorem x_maxL {K : PK} {d : Nat} {g : PG} {a b : Int} (ra : -9223372036854775808 ≤ a ∧ a < 9223372036854775808) (rb : -9223372036854775808 ≤ b ∧ b < 9223372036854775808) : CallR K (d + 1) 240 [.long (lL a), .long (lL b)] g (some (.long (lL (if a < b then b else a)))) g := by
  apply CQ.x
  refine CQ.of (own := 14) (n := 4) (ini := false) (rt := (some .long)) (cd := cd240) (by decide +kernel) rfl (by decide +kernel) rfl (Nat.le_of_ble_eq_true rfl) ?_
  refine RQ.seg 2 (pc' := 2) (L' := [some (.long (lL a)), none, some (.long (lL b)), none]) (st' := [.long (lL b), .long (lL a)]) (g1 := g) rfl ?_
  refine RQ.lcmp (a := a) (b := b) rfl rfl rfl (by omega) (by omega) (fun (h1 : b < a) => ?_) (fun (h1 : a = b) => ?_) (fun (h1 : a < b) => ?_)
  · skip
    refine RQ.seg 3 (pc' := 11) (L' := [some (.long (lL a)), none, some (.long (lL b)), none]) (st' := [.long (lL a)]) (g1 := g) rfl ?_
    refine RQ.ret rfl rfl ?_
    refine ⟨?_, rfl⟩
    first | rw [if_pos (by omega)] | rw [if_neg (by omega)]
  · skip
    refine RQ.seg 3 (pc' := 11) (L' := [some (.long (lL a)), none, some (.long (lL b)), none]) (st' := [.long (lL a)]) (g1 := g) rfl ?_
    refine RQ.ret rfl rfl ?_
    refine ⟨?_, rfl⟩
    first | rw [if_pos (by omega)] | rw [if_neg (by omega)]
  · skip
    refine RQ.seg 2 (pc' := 11) (L' := [some (.long (lL a)), none, some (.long (lL b)), none]) (st' := [.long (lL b)]) (g1 := g) rfl ?_
    refine RQ.ret rfl rfl ?_
    refine ⟨?_, rfl⟩
    first | rw [if_pos (by omega)] | rw [if_neg (by omega)]
theorem x_within {K : PK} {d : Nat} {g : PG} {v : Int} (rv : -9223372036854775808 ≤ v ∧ v < 9223372036854775808) : CallR K (d + 2) 8 [.long (lL v)] g (some (.int (iI (wi v)))) g := by
  apply CQ.x
  refine CQ.of (own := 0) (n := 2) (ini := false) (rt := (some .int)) (cd := cd8) (by decide +kernel) rfl (by decide +kernel) rfl (Nat.le_of_ble_eq_true rfl) ?_
  refine RQ.seg 3 (pc' := 7) (L' := [some (.long (lL v)), none]) (st' := [.long (lL v), .long (lL 1000000), .long (lL (-1000000))]) (g1 := g) rfl ?_
  refine RQ.call rfl rfl (CallR.up (d := 1) (x_minL (d := 0) (a := 1000000) (b := v) (by omega) rv) (by omega)) ?_
  have hmn : -9223372036854775808 ≤ (if v < 1000000 then v else 1000000) ∧ (if v < 1000000 then v else 1000000) ≤ 1000000 := by split <;> omega
  refine RQ.call rfl rfl (CallR.up (d := 1) (x_maxL (d := 0) (a := (-1000000)) (b := if v < 1000000 then v else 1000000) (by omega) (by omega)) (by omega)) ?_
  rw [show (if (-1000000 : Int) < (if v < 1000000 then v else 1000000) then (if v < 1000000 then v else 1000000) else -1000000) = wi v by unfold wi; (repeat split) <;> omega]
  refine RQ.seg 1 (pc' := 14) (L' := [some (.long (lL v)), none]) (st' := [.int (((lL (wi v))).toInt32)]) (g1 := g) rfl ?_
  refine RQ.to (L' := [some (.long (lL v)), none]) (st' := [.int (iI (wi v))]) rfl (by rw [lL_32]) ?_
  refine RQ.ret rfl rfl ?_
  exact ⟨rfl, rfl⟩
theorem m_within {K : PK} {d : Nat} {g : PG} {v : Int} (rv : -9223372036854775808 ≤ v ∧ v < 9223372036854775808) : CallR K (d + 2) 162 [.long (lL v)] g (some (.int (iI (wi v)))) g := by
  apply CQ.x
  refine CQ.of (own := 11) (n := 2) (ini := false) (rt := (some .int)) (cd := cd162) (by decide +kernel) rfl (by decide +kernel) rfl (Nat.le_of_ble_eq_true rfl) ?_
  refine RQ.seg 3 (pc' := 7) (L' := [some (.long (lL v)), none]) (st' := [.long (lL v), .long (lL 1000000), .long (lL (-1000000))]) (g1 := g) rfl ?_
  refine RQ.call rfl rfl (CallR.up (d := 1) (x_minL (d := 0) (a := 1000000) (b := v) (by omega) rv) (by omega)) ?_
  have hmn : -9223372036854775808 ≤ (if v < 1000000 then v else 1000000) ∧ (if v < 1000000 then v else 1000000) ≤ 1000000 := by split <;> omega
  refine RQ.call rfl rfl (CallR.up (d := 1) (x_maxL (d := 0) (a := (-1000000)) (b := if v < 1000000 then v else 1000000) (by omega) (by omega)) (by omega)) ?_
  rw [show (if (-1000000 : Int) < (if v < 1000000 then v else 1000000) then (if v < 1000000 then v else 1000000) else -1000000) = wi v by unfold wi; (repeat split) <;> omega]
  refine RQ.seg 1 (pc' := 14) (L' := [some (.long (lL v)), none]) (st' := [.int (((lL (wi v))).toInt32)]) (g1 := g) rfl ?_
  refine RQ.to (L' := [some (.long (lL v)), none]) (st' := [.int (iI (wi v))]) rfl (by rw [lL_32]) ?_
  refine RQ.ret rfl rfl ?_
  exact ⟨rfl, rfl⟩
