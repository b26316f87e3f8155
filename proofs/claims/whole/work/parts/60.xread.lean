/-! the readers of the class, by wip/tools -/
theorem x_dig_t {K : PK} {d : Nat} {g : PG} {c : Int} (rc : -2147483648 ≤ c ∧ c < 2147483648) (hc : dig c) : CallR K (d + 1) 57 [.int (iI c)] g (some (.int (iI 1))) g := by
  apply CQ.x
  refine CQ.of (own := 12) (n := 1) (ini := false) (rt := (some .boolean)) (cd := cd57) (by decide +kernel) rfl (by decide +kernel) rfl (Nat.le_of_ble_eq_true rfl) ?_
  refine RQ.seg 2 (pc' := 3) (L' := [some (.int (iI c))]) (st' := [.int (iI 48), .int (iI c)]) (g1 := g) rfl ?_
  refine RQ.if2 (a := c) (b := 48) rfl rfl rfl rfl (by omega) (by omega) (fun (h1 : c < 48) => ?_) (fun (h1 : ¬ c < 48) => ?_)
  · skip
    refine RQ.seg 1 (pc' := 17) (L' := [some (.int (iI c))]) (st' := [.int (iI 0)]) (g1 := g) rfl ?_
    refine RQ.ret rfl rfl ?_
    first | exact ⟨rfl, rfl⟩ | (exfalso; omega)
  · skip
    refine RQ.seg 2 (pc' := 9) (L' := [some (.int (iI c))]) (st' := [.int (iI 57), .int (iI c)]) (g1 := g) rfl ?_
    refine RQ.if2 (a := c) (b := 57) rfl rfl rfl rfl (by omega) (by omega) (fun (h2 : 57 < c) => ?_) (fun (h2 : ¬ 57 < c) => ?_)
    · skip
      refine RQ.seg 1 (pc' := 17) (L' := [some (.int (iI c))]) (st' := [.int (iI 0)]) (g1 := g) rfl ?_
      refine RQ.ret rfl rfl ?_
      first | exact ⟨rfl, rfl⟩ | (exfalso; omega)
    · skip
      refine RQ.seg 2 (pc' := 17) (L' := [some (.int (iI c))]) (st' := [.int (iI 1)]) (g1 := g) rfl ?_
      refine RQ.ret rfl rfl ?_
      first | exact ⟨rfl, rfl⟩ | (exfalso; omega)
theorem x_dig_f {K : PK} {d : Nat} {g : PG} {c : Int} (rc : -2147483648 ≤ c ∧ c < 2147483648) (hc : ¬ dig c) : CallR K (d + 1) 57 [.int (iI c)] g (some (.int (iI 0))) g := by
  apply CQ.x
  refine CQ.of (own := 12) (n := 1) (ini := false) (rt := (some .boolean)) (cd := cd57) (by decide +kernel) rfl (by decide +kernel) rfl (Nat.le_of_ble_eq_true rfl) ?_
  refine RQ.seg 2 (pc' := 3) (L' := [some (.int (iI c))]) (st' := [.int (iI 48), .int (iI c)]) (g1 := g) rfl ?_
  refine RQ.if2 (a := c) (b := 48) rfl rfl rfl rfl (by omega) (by omega) (fun (h1 : c < 48) => ?_) (fun (h1 : ¬ c < 48) => ?_)
  · skip
    refine RQ.seg 1 (pc' := 17) (L' := [some (.int (iI c))]) (st' := [.int (iI 0)]) (g1 := g) rfl ?_
    refine RQ.ret rfl rfl ?_
    first | exact ⟨rfl, rfl⟩ | (exfalso; omega)
  · skip
    refine RQ.seg 2 (pc' := 9) (L' := [some (.int (iI c))]) (st' := [.int (iI 57), .int (iI c)]) (g1 := g) rfl ?_
    refine RQ.if2 (a := c) (b := 57) rfl rfl rfl rfl (by omega) (by omega) (fun (h2 : 57 < c) => ?_) (fun (h2 : ¬ 57 < c) => ?_)
    · skip
      refine RQ.seg 1 (pc' := 17) (L' := [some (.int (iI c))]) (st' := [.int (iI 0)]) (g1 := g) rfl ?_
      refine RQ.ret rfl rfl ?_
      first | exact ⟨rfl, rfl⟩ | (exfalso; omega)
    · skip
      refine RQ.seg 2 (pc' := 17) (L' := [some (.int (iI c))]) (st' := [.int (iI 1)]) (g1 := g) rfl ?_
      refine RQ.ret rfl rfl ?_
      first | exact ⟨rfl, rfl⟩ | (exfalso; omega)
theorem x_place0 {K : PK} {d : Nat} {g : PG} {c : Int} (hK0 : K 0 = some (4, zA kc0)) (rc : -2147483648 ≤ c ∧ c < 2147483648) : CallR K (d + 1) 58 [.retAddr 0, .int (iI c)] g (some (.int (iI (pw c)))) g := by
  apply CQ.x
  have k0 : kc0 0 = 120 := rfl
  have k1 : kc0 1 = 104 := rfl
  have k2 : kc0 2 = 99 := rfl
  have k3 : kc0 3 = 102 := rfl
  refine CQ.of (own := 12) (n := 3) (ini := false) (rt := (some .int)) (cd := cd58) (by decide +kernel) rfl (by decide +kernel) rfl (Nat.le_of_ble_eq_true rfl) ?_
  refine RQ.seg 4 (pc' := 4) (L' := [some (.retAddr 0), some (.int (iI c)), some (.int (iI 0))]) (st' := [.retAddr 0, .int (iI 0)]) (g1 := g) rfl ?_
  refine RQ.kalen rfl hK0 ?_
  refine RQ.seg 3 (pc' := 10) (L' := [some (.retAddr 0), some (.int (iI c)), some (.int (iI 0))]) (st' := [.int (iI 0), .retAddr 0]) (g1 := g) rfl ?_
  refine RQ.kald (z := 0) rfl rfl hK0 (by omega) (by decide) ?_
  refine RQ.seg 1 (pc' := 12) (L' := [some (.retAddr 0), some (.int (iI c)), some (.int (iI 0))]) (st' := [.int (iI c), .int (iI (kc0 0))]) (g1 := g) rfl ?_
  refine RQ.if2 (a := (kc0 0)) (b := c) rfl rfl rfl rfl (by omega) (by omega) (fun (h1 : kc0 0 ≠ c) => ?_) (fun (h1 : ¬ kc0 0 ≠ c) => ?_)
  · skip
    refine RQ.seg 4 (pc' := 4) (L' := [some (.retAddr 0), some (.int (iI c)), some (.int (iI 1))]) (st' := [.retAddr 0, .int (iI 1)]) (g1 := g) rfl ?_
    refine RQ.kalen rfl hK0 ?_
    refine RQ.seg 3 (pc' := 10) (L' := [some (.retAddr 0), some (.int (iI c)), some (.int (iI 1))]) (st' := [.int (iI 1), .retAddr 0]) (g1 := g) rfl ?_
    refine RQ.kald (z := 1) rfl rfl hK0 (by omega) (by decide) ?_
    refine RQ.seg 1 (pc' := 12) (L' := [some (.retAddr 0), some (.int (iI c)), some (.int (iI 1))]) (st' := [.int (iI c), .int (iI (kc0 1))]) (g1 := g) rfl ?_
    refine RQ.if2 (a := (kc0 1)) (b := c) rfl rfl rfl rfl (by omega) (by omega) (fun (h2 : kc0 1 ≠ c) => ?_) (fun (h2 : ¬ kc0 1 ≠ c) => ?_)
    · skip
      refine RQ.seg 4 (pc' := 4) (L' := [some (.retAddr 0), some (.int (iI c)), some (.int (iI 2))]) (st' := [.retAddr 0, .int (iI 2)]) (g1 := g) rfl ?_
      refine RQ.kalen rfl hK0 ?_
      refine RQ.seg 3 (pc' := 10) (L' := [some (.retAddr 0), some (.int (iI c)), some (.int (iI 2))]) (st' := [.int (iI 2), .retAddr 0]) (g1 := g) rfl ?_
      refine RQ.kald (z := 2) rfl rfl hK0 (by omega) (by decide) ?_
      refine RQ.seg 1 (pc' := 12) (L' := [some (.retAddr 0), some (.int (iI c)), some (.int (iI 2))]) (st' := [.int (iI c), .int (iI (kc0 2))]) (g1 := g) rfl ?_
      refine RQ.if2 (a := (kc0 2)) (b := c) rfl rfl rfl rfl (by omega) (by omega) (fun (h3 : kc0 2 ≠ c) => ?_) (fun (h3 : ¬ kc0 2 ≠ c) => ?_)
      · skip
        refine RQ.seg 4 (pc' := 4) (L' := [some (.retAddr 0), some (.int (iI c)), some (.int (iI 3))]) (st' := [.retAddr 0, .int (iI 3)]) (g1 := g) rfl ?_
        refine RQ.kalen rfl hK0 ?_
        refine RQ.seg 3 (pc' := 10) (L' := [some (.retAddr 0), some (.int (iI c)), some (.int (iI 3))]) (st' := [.int (iI 3), .retAddr 0]) (g1 := g) rfl ?_
        refine RQ.kald (z := 3) rfl rfl hK0 (by omega) (by decide) ?_
        refine RQ.seg 1 (pc' := 12) (L' := [some (.retAddr 0), some (.int (iI c)), some (.int (iI 3))]) (st' := [.int (iI c), .int (iI (kc0 3))]) (g1 := g) rfl ?_
        refine RQ.if2 (a := (kc0 3)) (b := c) rfl rfl rfl rfl (by omega) (by omega) (fun (h4 : kc0 3 ≠ c) => ?_) (fun (h4 : ¬ kc0 3 ≠ c) => ?_)
        · skip
          refine RQ.seg 4 (pc' := 4) (L' := [some (.retAddr 0), some (.int (iI c)), some (.int (iI 4))]) (st' := [.retAddr 0, .int (iI 4)]) (g1 := g) rfl ?_
          refine RQ.kalen rfl hK0 ?_
          refine RQ.seg 2 (pc' := 24) (L' := [some (.retAddr 0), some (.int (iI c)), some (.int (iI 4))]) (st' := [.int (iI (-1))]) (g1 := g) rfl ?_
          refine RQ.ret rfl rfl ?_
          first | (exfalso; omega) | (refine ⟨?_, rfl⟩; congr 3; unfold pw; (repeat (first | rw [if_pos (by omega)] | rw [if_neg (by omega)])); done)
        · skip
          refine RQ.seg 1 (pc' := 16) (L' := [some (.retAddr 0), some (.int (iI c)), some (.int (iI 3))]) (st' := [.int (iI 3)]) (g1 := g) rfl ?_
          refine RQ.ret rfl rfl ?_
          first | (exfalso; omega) | (refine ⟨?_, rfl⟩; congr 3; unfold pw; (repeat (first | rw [if_pos (by omega)] | rw [if_neg (by omega)])); done)
      · skip
        refine RQ.seg 1 (pc' := 16) (L' := [some (.retAddr 0), some (.int (iI c)), some (.int (iI 2))]) (st' := [.int (iI 2)]) (g1 := g) rfl ?_
        refine RQ.ret rfl rfl ?_
        first | (exfalso; omega) | (refine ⟨?_, rfl⟩; congr 3; unfold pw; (repeat (first | rw [if_pos (by omega)] | rw [if_neg (by omega)])); done)
    · skip
      refine RQ.seg 1 (pc' := 16) (L' := [some (.retAddr 0), some (.int (iI c)), some (.int (iI 1))]) (st' := [.int (iI 1)]) (g1 := g) rfl ?_
      refine RQ.ret rfl rfl ?_
      first | (exfalso; omega) | (refine ⟨?_, rfl⟩; congr 3; unfold pw; (repeat (first | rw [if_pos (by omega)] | rw [if_neg (by omega)])); done)
  · skip
    refine RQ.seg 1 (pc' := 16) (L' := [some (.retAddr 0), some (.int (iI c)), some (.int (iI 0))]) (st' := [.int (iI 0)]) (g1 := g) rfl ?_
    refine RQ.ret rfl rfl ?_
    first | (exfalso; omega) | (refine ⟨?_, rfl⟩; congr 3; unfold pw; (repeat (first | rw [if_pos (by omega)] | rw [if_neg (by omega)])); done)
theorem x_place1 {K : PK} {d : Nat} {g : PG} {c : Int} (hK1 : K 1 = some (3, zA kc1)) (rc : -2147483648 ≤ c ∧ c < 2147483648) : CallR K (d + 1) 58 [.retAddr 1, .int (iI c)] g (some (.int (iI (pb c)))) g := by
  apply CQ.x
  have k0 : kc1 0 = 97 := rfl
  have k1 : kc1 1 = 110 := rfl
  have k2 : kc1 2 = 112 := rfl
  refine CQ.of (own := 12) (n := 3) (ini := false) (rt := (some .int)) (cd := cd58) (by decide +kernel) rfl (by decide +kernel) rfl (Nat.le_of_ble_eq_true rfl) ?_
  refine RQ.seg 4 (pc' := 4) (L' := [some (.retAddr 1), some (.int (iI c)), some (.int (iI 0))]) (st' := [.retAddr 1, .int (iI 0)]) (g1 := g) rfl ?_
  refine RQ.kalen rfl hK1 ?_
  refine RQ.seg 3 (pc' := 10) (L' := [some (.retAddr 1), some (.int (iI c)), some (.int (iI 0))]) (st' := [.int (iI 0), .retAddr 1]) (g1 := g) rfl ?_
  refine RQ.kald (z := 0) rfl rfl hK1 (by omega) (by decide) ?_
  refine RQ.seg 1 (pc' := 12) (L' := [some (.retAddr 1), some (.int (iI c)), some (.int (iI 0))]) (st' := [.int (iI c), .int (iI (kc1 0))]) (g1 := g) rfl ?_
  refine RQ.if2 (a := (kc1 0)) (b := c) rfl rfl rfl rfl (by omega) (by omega) (fun (h1 : kc1 0 ≠ c) => ?_) (fun (h1 : ¬ kc1 0 ≠ c) => ?_)
  · skip
    refine RQ.seg 4 (pc' := 4) (L' := [some (.retAddr 1), some (.int (iI c)), some (.int (iI 1))]) (st' := [.retAddr 1, .int (iI 1)]) (g1 := g) rfl ?_
    refine RQ.kalen rfl hK1 ?_
    refine RQ.seg 3 (pc' := 10) (L' := [some (.retAddr 1), some (.int (iI c)), some (.int (iI 1))]) (st' := [.int (iI 1), .retAddr 1]) (g1 := g) rfl ?_
    refine RQ.kald (z := 1) rfl rfl hK1 (by omega) (by decide) ?_
    refine RQ.seg 1 (pc' := 12) (L' := [some (.retAddr 1), some (.int (iI c)), some (.int (iI 1))]) (st' := [.int (iI c), .int (iI (kc1 1))]) (g1 := g) rfl ?_
    refine RQ.if2 (a := (kc1 1)) (b := c) rfl rfl rfl rfl (by omega) (by omega) (fun (h2 : kc1 1 ≠ c) => ?_) (fun (h2 : ¬ kc1 1 ≠ c) => ?_)
    · skip
      refine RQ.seg 4 (pc' := 4) (L' := [some (.retAddr 1), some (.int (iI c)), some (.int (iI 2))]) (st' := [.retAddr 1, .int (iI 2)]) (g1 := g) rfl ?_
      refine RQ.kalen rfl hK1 ?_
      refine RQ.seg 3 (pc' := 10) (L' := [some (.retAddr 1), some (.int (iI c)), some (.int (iI 2))]) (st' := [.int (iI 2), .retAddr 1]) (g1 := g) rfl ?_
      refine RQ.kald (z := 2) rfl rfl hK1 (by omega) (by decide) ?_
      refine RQ.seg 1 (pc' := 12) (L' := [some (.retAddr 1), some (.int (iI c)), some (.int (iI 2))]) (st' := [.int (iI c), .int (iI (kc1 2))]) (g1 := g) rfl ?_
      refine RQ.if2 (a := (kc1 2)) (b := c) rfl rfl rfl rfl (by omega) (by omega) (fun (h3 : kc1 2 ≠ c) => ?_) (fun (h3 : ¬ kc1 2 ≠ c) => ?_)
      · skip
        refine RQ.seg 4 (pc' := 4) (L' := [some (.retAddr 1), some (.int (iI c)), some (.int (iI 3))]) (st' := [.retAddr 1, .int (iI 3)]) (g1 := g) rfl ?_
        refine RQ.kalen rfl hK1 ?_
        refine RQ.seg 2 (pc' := 24) (L' := [some (.retAddr 1), some (.int (iI c)), some (.int (iI 3))]) (st' := [.int (iI (-1))]) (g1 := g) rfl ?_
        refine RQ.ret rfl rfl ?_
        first | (exfalso; omega) | (refine ⟨?_, rfl⟩; congr 3; unfold pb; (repeat (first | rw [if_pos (by omega)] | rw [if_neg (by omega)])); done)
      · skip
        refine RQ.seg 1 (pc' := 16) (L' := [some (.retAddr 1), some (.int (iI c)), some (.int (iI 2))]) (st' := [.int (iI 2)]) (g1 := g) rfl ?_
        refine RQ.ret rfl rfl ?_
        first | (exfalso; omega) | (refine ⟨?_, rfl⟩; congr 3; unfold pb; (repeat (first | rw [if_pos (by omega)] | rw [if_neg (by omega)])); done)
    · skip
      refine RQ.seg 1 (pc' := 16) (L' := [some (.retAddr 1), some (.int (iI c)), some (.int (iI 1))]) (st' := [.int (iI 1)]) (g1 := g) rfl ?_
      refine RQ.ret rfl rfl ?_
      first | (exfalso; omega) | (refine ⟨?_, rfl⟩; congr 3; unfold pb; (repeat (first | rw [if_pos (by omega)] | rw [if_neg (by omega)])); done)
  · skip
    refine RQ.seg 1 (pc' := 16) (L' := [some (.retAddr 1), some (.int (iI c)), some (.int (iI 0))]) (st' := [.int (iI 0)]) (g1 := g) rfl ?_
    refine RQ.ret rfl rfl ?_
    first | (exfalso; omega) | (refine ⟨?_, rfl⟩; congr 3; unfold pb; (repeat (first | rw [if_pos (by omega)] | rw [if_neg (by omega)])); done)
theorem x_place2 {K : PK} {d : Nat} {g : PG} {c : Int} (hK2 : K 2 = some (4, zA kc2)) (rc : -2147483648 ≤ c ∧ c < 2147483648) : CallR K (d + 1) 58 [.retAddr 2, .int (iI c)] g (some (.int (iI (pl c)))) g := by
  apply CQ.x
  have k0 : kc2 0 = 112 := rfl
  have k1 : kc2 1 = 115 := rfl
  have k2 : kc2 2 = 107 := rfl
  have k3 : kc2 3 = 113 := rfl
  refine CQ.of (own := 12) (n := 3) (ini := false) (rt := (some .int)) (cd := cd58) (by decide +kernel) rfl (by decide +kernel) rfl (Nat.le_of_ble_eq_true rfl) ?_
  refine RQ.seg 4 (pc' := 4) (L' := [some (.retAddr 2), some (.int (iI c)), some (.int (iI 0))]) (st' := [.retAddr 2, .int (iI 0)]) (g1 := g) rfl ?_
  refine RQ.kalen rfl hK2 ?_
  refine RQ.seg 3 (pc' := 10) (L' := [some (.retAddr 2), some (.int (iI c)), some (.int (iI 0))]) (st' := [.int (iI 0), .retAddr 2]) (g1 := g) rfl ?_
  refine RQ.kald (z := 0) rfl rfl hK2 (by omega) (by decide) ?_
  refine RQ.seg 1 (pc' := 12) (L' := [some (.retAddr 2), some (.int (iI c)), some (.int (iI 0))]) (st' := [.int (iI c), .int (iI (kc2 0))]) (g1 := g) rfl ?_
  refine RQ.if2 (a := (kc2 0)) (b := c) rfl rfl rfl rfl (by omega) (by omega) (fun (h1 : kc2 0 ≠ c) => ?_) (fun (h1 : ¬ kc2 0 ≠ c) => ?_)
  · skip
    refine RQ.seg 4 (pc' := 4) (L' := [some (.retAddr 2), some (.int (iI c)), some (.int (iI 1))]) (st' := [.retAddr 2, .int (iI 1)]) (g1 := g) rfl ?_
    refine RQ.kalen rfl hK2 ?_
    refine RQ.seg 3 (pc' := 10) (L' := [some (.retAddr 2), some (.int (iI c)), some (.int (iI 1))]) (st' := [.int (iI 1), .retAddr 2]) (g1 := g) rfl ?_
    refine RQ.kald (z := 1) rfl rfl hK2 (by omega) (by decide) ?_
    refine RQ.seg 1 (pc' := 12) (L' := [some (.retAddr 2), some (.int (iI c)), some (.int (iI 1))]) (st' := [.int (iI c), .int (iI (kc2 1))]) (g1 := g) rfl ?_
    refine RQ.if2 (a := (kc2 1)) (b := c) rfl rfl rfl rfl (by omega) (by omega) (fun (h2 : kc2 1 ≠ c) => ?_) (fun (h2 : ¬ kc2 1 ≠ c) => ?_)
    · skip
      refine RQ.seg 4 (pc' := 4) (L' := [some (.retAddr 2), some (.int (iI c)), some (.int (iI 2))]) (st' := [.retAddr 2, .int (iI 2)]) (g1 := g) rfl ?_
      refine RQ.kalen rfl hK2 ?_
      refine RQ.seg 3 (pc' := 10) (L' := [some (.retAddr 2), some (.int (iI c)), some (.int (iI 2))]) (st' := [.int (iI 2), .retAddr 2]) (g1 := g) rfl ?_
      refine RQ.kald (z := 2) rfl rfl hK2 (by omega) (by decide) ?_
      refine RQ.seg 1 (pc' := 12) (L' := [some (.retAddr 2), some (.int (iI c)), some (.int (iI 2))]) (st' := [.int (iI c), .int (iI (kc2 2))]) (g1 := g) rfl ?_
      refine RQ.if2 (a := (kc2 2)) (b := c) rfl rfl rfl rfl (by omega) (by omega) (fun (h3 : kc2 2 ≠ c) => ?_) (fun (h3 : ¬ kc2 2 ≠ c) => ?_)
      · skip
        refine RQ.seg 4 (pc' := 4) (L' := [some (.retAddr 2), some (.int (iI c)), some (.int (iI 3))]) (st' := [.retAddr 2, .int (iI 3)]) (g1 := g) rfl ?_
        refine RQ.kalen rfl hK2 ?_
        refine RQ.seg 3 (pc' := 10) (L' := [some (.retAddr 2), some (.int (iI c)), some (.int (iI 3))]) (st' := [.int (iI 3), .retAddr 2]) (g1 := g) rfl ?_
        refine RQ.kald (z := 3) rfl rfl hK2 (by omega) (by decide) ?_
        refine RQ.seg 1 (pc' := 12) (L' := [some (.retAddr 2), some (.int (iI c)), some (.int (iI 3))]) (st' := [.int (iI c), .int (iI (kc2 3))]) (g1 := g) rfl ?_
        refine RQ.if2 (a := (kc2 3)) (b := c) rfl rfl rfl rfl (by omega) (by omega) (fun (h4 : kc2 3 ≠ c) => ?_) (fun (h4 : ¬ kc2 3 ≠ c) => ?_)
        · skip
          refine RQ.seg 4 (pc' := 4) (L' := [some (.retAddr 2), some (.int (iI c)), some (.int (iI 4))]) (st' := [.retAddr 2, .int (iI 4)]) (g1 := g) rfl ?_
          refine RQ.kalen rfl hK2 ?_
          refine RQ.seg 2 (pc' := 24) (L' := [some (.retAddr 2), some (.int (iI c)), some (.int (iI 4))]) (st' := [.int (iI (-1))]) (g1 := g) rfl ?_
          refine RQ.ret rfl rfl ?_
          first | (exfalso; omega) | (refine ⟨?_, rfl⟩; congr 3; unfold pl; (repeat (first | rw [if_pos (by omega)] | rw [if_neg (by omega)])); done)
        · skip
          refine RQ.seg 1 (pc' := 16) (L' := [some (.retAddr 2), some (.int (iI c)), some (.int (iI 3))]) (st' := [.int (iI 3)]) (g1 := g) rfl ?_
          refine RQ.ret rfl rfl ?_
          first | (exfalso; omega) | (refine ⟨?_, rfl⟩; congr 3; unfold pl; (repeat (first | rw [if_pos (by omega)] | rw [if_neg (by omega)])); done)
      · skip
        refine RQ.seg 1 (pc' := 16) (L' := [some (.retAddr 2), some (.int (iI c)), some (.int (iI 2))]) (st' := [.int (iI 2)]) (g1 := g) rfl ?_
        refine RQ.ret rfl rfl ?_
        first | (exfalso; omega) | (refine ⟨?_, rfl⟩; congr 3; unfold pl; (repeat (first | rw [if_pos (by omega)] | rw [if_neg (by omega)])); done)
    · skip
      refine RQ.seg 1 (pc' := 16) (L' := [some (.retAddr 2), some (.int (iI c)), some (.int (iI 1))]) (st' := [.int (iI 1)]) (g1 := g) rfl ?_
      refine RQ.ret rfl rfl ?_
      first | (exfalso; omega) | (refine ⟨?_, rfl⟩; congr 3; unfold pl; (repeat (first | rw [if_pos (by omega)] | rw [if_neg (by omega)])); done)
  · skip
    refine RQ.seg 1 (pc' := 16) (L' := [some (.retAddr 2), some (.int (iI c)), some (.int (iI 0))]) (st' := [.int (iI 0)]) (g1 := g) rfl ?_
    refine RQ.ret rfl rfl ?_
    first | (exfalso; omega) | (refine ⟨?_, rfl⟩; congr 3; unfold pl; (repeat (first | rw [if_pos (by omega)] | rw [if_neg (by omega)])); done)
theorem x_place3 {K : PK} {d : Nat} {g : PG} {c : Int} (hK3 : K 3 = some (6, zA kc3)) (rc : -2147483648 ≤ c ∧ c < 2147483648) : CallR K (d + 1) 58 [.retAddr 3, .int (iI c)] g (some (.int (iI (pr c)))) g := by
  apply CQ.x
  have k0 : kc3 0 = 100 := rfl
  have k1 : kc3 1 = 104 := rfl
  have k2 : kc3 2 = 99 := rfl
  have k3 : kc3 3 = 102 := rfl
  have k4 : kc3 4 = 111 := rfl
  have k5 : kc3 5 = 107 := rfl
  refine CQ.of (own := 12) (n := 3) (ini := false) (rt := (some .int)) (cd := cd58) (by decide +kernel) rfl (by decide +kernel) rfl (Nat.le_of_ble_eq_true rfl) ?_
  refine RQ.seg 4 (pc' := 4) (L' := [some (.retAddr 3), some (.int (iI c)), some (.int (iI 0))]) (st' := [.retAddr 3, .int (iI 0)]) (g1 := g) rfl ?_
  refine RQ.kalen rfl hK3 ?_
  refine RQ.seg 3 (pc' := 10) (L' := [some (.retAddr 3), some (.int (iI c)), some (.int (iI 0))]) (st' := [.int (iI 0), .retAddr 3]) (g1 := g) rfl ?_
  refine RQ.kald (z := 0) rfl rfl hK3 (by omega) (by decide) ?_
  refine RQ.seg 1 (pc' := 12) (L' := [some (.retAddr 3), some (.int (iI c)), some (.int (iI 0))]) (st' := [.int (iI c), .int (iI (kc3 0))]) (g1 := g) rfl ?_
  refine RQ.if2 (a := (kc3 0)) (b := c) rfl rfl rfl rfl (by omega) (by omega) (fun (h1 : kc3 0 ≠ c) => ?_) (fun (h1 : ¬ kc3 0 ≠ c) => ?_)
  · skip
    refine RQ.seg 4 (pc' := 4) (L' := [some (.retAddr 3), some (.int (iI c)), some (.int (iI 1))]) (st' := [.retAddr 3, .int (iI 1)]) (g1 := g) rfl ?_
    refine RQ.kalen rfl hK3 ?_
    refine RQ.seg 3 (pc' := 10) (L' := [some (.retAddr 3), some (.int (iI c)), some (.int (iI 1))]) (st' := [.int (iI 1), .retAddr 3]) (g1 := g) rfl ?_
    refine RQ.kald (z := 1) rfl rfl hK3 (by omega) (by decide) ?_
    refine RQ.seg 1 (pc' := 12) (L' := [some (.retAddr 3), some (.int (iI c)), some (.int (iI 1))]) (st' := [.int (iI c), .int (iI (kc3 1))]) (g1 := g) rfl ?_
    refine RQ.if2 (a := (kc3 1)) (b := c) rfl rfl rfl rfl (by omega) (by omega) (fun (h2 : kc3 1 ≠ c) => ?_) (fun (h2 : ¬ kc3 1 ≠ c) => ?_)
    · skip
      refine RQ.seg 4 (pc' := 4) (L' := [some (.retAddr 3), some (.int (iI c)), some (.int (iI 2))]) (st' := [.retAddr 3, .int (iI 2)]) (g1 := g) rfl ?_
      refine RQ.kalen rfl hK3 ?_
      refine RQ.seg 3 (pc' := 10) (L' := [some (.retAddr 3), some (.int (iI c)), some (.int (iI 2))]) (st' := [.int (iI 2), .retAddr 3]) (g1 := g) rfl ?_
      refine RQ.kald (z := 2) rfl rfl hK3 (by omega) (by decide) ?_
      refine RQ.seg 1 (pc' := 12) (L' := [some (.retAddr 3), some (.int (iI c)), some (.int (iI 2))]) (st' := [.int (iI c), .int (iI (kc3 2))]) (g1 := g) rfl ?_
      refine RQ.if2 (a := (kc3 2)) (b := c) rfl rfl rfl rfl (by omega) (by omega) (fun (h3 : kc3 2 ≠ c) => ?_) (fun (h3 : ¬ kc3 2 ≠ c) => ?_)
      · skip
        refine RQ.seg 4 (pc' := 4) (L' := [some (.retAddr 3), some (.int (iI c)), some (.int (iI 3))]) (st' := [.retAddr 3, .int (iI 3)]) (g1 := g) rfl ?_
        refine RQ.kalen rfl hK3 ?_
        refine RQ.seg 3 (pc' := 10) (L' := [some (.retAddr 3), some (.int (iI c)), some (.int (iI 3))]) (st' := [.int (iI 3), .retAddr 3]) (g1 := g) rfl ?_
        refine RQ.kald (z := 3) rfl rfl hK3 (by omega) (by decide) ?_
        refine RQ.seg 1 (pc' := 12) (L' := [some (.retAddr 3), some (.int (iI c)), some (.int (iI 3))]) (st' := [.int (iI c), .int (iI (kc3 3))]) (g1 := g) rfl ?_
        refine RQ.if2 (a := (kc3 3)) (b := c) rfl rfl rfl rfl (by omega) (by omega) (fun (h4 : kc3 3 ≠ c) => ?_) (fun (h4 : ¬ kc3 3 ≠ c) => ?_)
        · skip
          refine RQ.seg 4 (pc' := 4) (L' := [some (.retAddr 3), some (.int (iI c)), some (.int (iI 4))]) (st' := [.retAddr 3, .int (iI 4)]) (g1 := g) rfl ?_
          refine RQ.kalen rfl hK3 ?_
          refine RQ.seg 3 (pc' := 10) (L' := [some (.retAddr 3), some (.int (iI c)), some (.int (iI 4))]) (st' := [.int (iI 4), .retAddr 3]) (g1 := g) rfl ?_
          refine RQ.kald (z := 4) rfl rfl hK3 (by omega) (by decide) ?_
          refine RQ.seg 1 (pc' := 12) (L' := [some (.retAddr 3), some (.int (iI c)), some (.int (iI 4))]) (st' := [.int (iI c), .int (iI (kc3 4))]) (g1 := g) rfl ?_
          refine RQ.if2 (a := (kc3 4)) (b := c) rfl rfl rfl rfl (by omega) (by omega) (fun (h5 : kc3 4 ≠ c) => ?_) (fun (h5 : ¬ kc3 4 ≠ c) => ?_)
          · skip
            refine RQ.seg 4 (pc' := 4) (L' := [some (.retAddr 3), some (.int (iI c)), some (.int (iI 5))]) (st' := [.retAddr 3, .int (iI 5)]) (g1 := g) rfl ?_
            refine RQ.kalen rfl hK3 ?_
            refine RQ.seg 3 (pc' := 10) (L' := [some (.retAddr 3), some (.int (iI c)), some (.int (iI 5))]) (st' := [.int (iI 5), .retAddr 3]) (g1 := g) rfl ?_
            refine RQ.kald (z := 5) rfl rfl hK3 (by omega) (by decide) ?_
            refine RQ.seg 1 (pc' := 12) (L' := [some (.retAddr 3), some (.int (iI c)), some (.int (iI 5))]) (st' := [.int (iI c), .int (iI (kc3 5))]) (g1 := g) rfl ?_
            refine RQ.if2 (a := (kc3 5)) (b := c) rfl rfl rfl rfl (by omega) (by omega) (fun (h6 : kc3 5 ≠ c) => ?_) (fun (h6 : ¬ kc3 5 ≠ c) => ?_)
            · skip
              refine RQ.seg 4 (pc' := 4) (L' := [some (.retAddr 3), some (.int (iI c)), some (.int (iI 6))]) (st' := [.retAddr 3, .int (iI 6)]) (g1 := g) rfl ?_
              refine RQ.kalen rfl hK3 ?_
              refine RQ.seg 2 (pc' := 24) (L' := [some (.retAddr 3), some (.int (iI c)), some (.int (iI 6))]) (st' := [.int (iI (-1))]) (g1 := g) rfl ?_
              refine RQ.ret rfl rfl ?_
              first | (exfalso; omega) | (refine ⟨?_, rfl⟩; congr 3; unfold pr; (repeat (first | rw [if_pos (by omega)] | rw [if_neg (by omega)])); done)
            · skip
              refine RQ.seg 1 (pc' := 16) (L' := [some (.retAddr 3), some (.int (iI c)), some (.int (iI 5))]) (st' := [.int (iI 5)]) (g1 := g) rfl ?_
              refine RQ.ret rfl rfl ?_
              first | (exfalso; omega) | (refine ⟨?_, rfl⟩; congr 3; unfold pr; (repeat (first | rw [if_pos (by omega)] | rw [if_neg (by omega)])); done)
          · skip
            refine RQ.seg 1 (pc' := 16) (L' := [some (.retAddr 3), some (.int (iI c)), some (.int (iI 4))]) (st' := [.int (iI 4)]) (g1 := g) rfl ?_
            refine RQ.ret rfl rfl ?_
            first | (exfalso; omega) | (refine ⟨?_, rfl⟩; congr 3; unfold pr; (repeat (first | rw [if_pos (by omega)] | rw [if_neg (by omega)])); done)
        · skip
          refine RQ.seg 1 (pc' := 16) (L' := [some (.retAddr 3), some (.int (iI c)), some (.int (iI 3))]) (st' := [.int (iI 3)]) (g1 := g) rfl ?_
          refine RQ.ret rfl rfl ?_
          first | (exfalso; omega) | (refine ⟨?_, rfl⟩; congr 3; unfold pr; (repeat (first | rw [if_pos (by omega)] | rw [if_neg (by omega)])); done)
      · skip
        refine RQ.seg 1 (pc' := 16) (L' := [some (.retAddr 3), some (.int (iI c)), some (.int (iI 2))]) (st' := [.int (iI 2)]) (g1 := g) rfl ?_
        refine RQ.ret rfl rfl ?_
        first | (exfalso; omega) | (refine ⟨?_, rfl⟩; congr 3; unfold pr; (repeat (first | rw [if_pos (by omega)] | rw [if_neg (by omega)])); done)
    · skip
      refine RQ.seg 1 (pc' := 16) (L' := [some (.retAddr 3), some (.int (iI c)), some (.int (iI 1))]) (st' := [.int (iI 1)]) (g1 := g) rfl ?_
      refine RQ.ret rfl rfl ?_
      first | (exfalso; omega) | (refine ⟨?_, rfl⟩; congr 3; unfold pr; (repeat (first | rw [if_pos (by omega)] | rw [if_neg (by omega)])); done)
  · skip
    refine RQ.seg 1 (pc' := 16) (L' := [some (.retAddr 3), some (.int (iI c)), some (.int (iI 0))]) (st' := [.int (iI 0)]) (g1 := g) rfl ?_
    refine RQ.ret rfl rfl ?_
    first | (exfalso; omega) | (refine ⟨?_, rfl⟩; congr 3; unfold pr; (repeat (first | rw [if_pos (by omega)] | rw [if_neg (by omega)])); done)
theorem x_place13 {K : PK} {d : Nat} {g : PG} {c : Int} (hK13 : K 13 = some (3, zA kc13)) (rc : -2147483648 ≤ c ∧ c < 2147483648) : CallR K (d + 1) 58 [.retAddr 13, .int (iI c)] g (some (.int (iI (pcm c)))) g := by
  apply CQ.x
  have k0 : kc13 0 = 61 := rfl
  have k1 : kc13 1 = 60 := rfl
  have k2 : kc13 2 = 62 := rfl
  refine CQ.of (own := 12) (n := 3) (ini := false) (rt := (some .int)) (cd := cd58) (by decide +kernel) rfl (by decide +kernel) rfl (Nat.le_of_ble_eq_true rfl) ?_
  refine RQ.seg 4 (pc' := 4) (L' := [some (.retAddr 13), some (.int (iI c)), some (.int (iI 0))]) (st' := [.retAddr 13, .int (iI 0)]) (g1 := g) rfl ?_
  refine RQ.kalen rfl hK13 ?_
  refine RQ.seg 3 (pc' := 10) (L' := [some (.retAddr 13), some (.int (iI c)), some (.int (iI 0))]) (st' := [.int (iI 0), .retAddr 13]) (g1 := g) rfl ?_
  refine RQ.kald (z := 0) rfl rfl hK13 (by omega) (by decide) ?_
  refine RQ.seg 1 (pc' := 12) (L' := [some (.retAddr 13), some (.int (iI c)), some (.int (iI 0))]) (st' := [.int (iI c), .int (iI (kc13 0))]) (g1 := g) rfl ?_
  refine RQ.if2 (a := (kc13 0)) (b := c) rfl rfl rfl rfl (by omega) (by omega) (fun (h1 : kc13 0 ≠ c) => ?_) (fun (h1 : ¬ kc13 0 ≠ c) => ?_)
  · skip
    refine RQ.seg 4 (pc' := 4) (L' := [some (.retAddr 13), some (.int (iI c)), some (.int (iI 1))]) (st' := [.retAddr 13, .int (iI 1)]) (g1 := g) rfl ?_
    refine RQ.kalen rfl hK13 ?_
    refine RQ.seg 3 (pc' := 10) (L' := [some (.retAddr 13), some (.int (iI c)), some (.int (iI 1))]) (st' := [.int (iI 1), .retAddr 13]) (g1 := g) rfl ?_
    refine RQ.kald (z := 1) rfl rfl hK13 (by omega) (by decide) ?_
    refine RQ.seg 1 (pc' := 12) (L' := [some (.retAddr 13), some (.int (iI c)), some (.int (iI 1))]) (st' := [.int (iI c), .int (iI (kc13 1))]) (g1 := g) rfl ?_
    refine RQ.if2 (a := (kc13 1)) (b := c) rfl rfl rfl rfl (by omega) (by omega) (fun (h2 : kc13 1 ≠ c) => ?_) (fun (h2 : ¬ kc13 1 ≠ c) => ?_)
    · skip
      refine RQ.seg 4 (pc' := 4) (L' := [some (.retAddr 13), some (.int (iI c)), some (.int (iI 2))]) (st' := [.retAddr 13, .int (iI 2)]) (g1 := g) rfl ?_
      refine RQ.kalen rfl hK13 ?_
      refine RQ.seg 3 (pc' := 10) (L' := [some (.retAddr 13), some (.int (iI c)), some (.int (iI 2))]) (st' := [.int (iI 2), .retAddr 13]) (g1 := g) rfl ?_
      refine RQ.kald (z := 2) rfl rfl hK13 (by omega) (by decide) ?_
      refine RQ.seg 1 (pc' := 12) (L' := [some (.retAddr 13), some (.int (iI c)), some (.int (iI 2))]) (st' := [.int (iI c), .int (iI (kc13 2))]) (g1 := g) rfl ?_
      refine RQ.if2 (a := (kc13 2)) (b := c) rfl rfl rfl rfl (by omega) (by omega) (fun (h3 : kc13 2 ≠ c) => ?_) (fun (h3 : ¬ kc13 2 ≠ c) => ?_)
      · skip
        refine RQ.seg 4 (pc' := 4) (L' := [some (.retAddr 13), some (.int (iI c)), some (.int (iI 3))]) (st' := [.retAddr 13, .int (iI 3)]) (g1 := g) rfl ?_
        refine RQ.kalen rfl hK13 ?_
        refine RQ.seg 2 (pc' := 24) (L' := [some (.retAddr 13), some (.int (iI c)), some (.int (iI 3))]) (st' := [.int (iI (-1))]) (g1 := g) rfl ?_
        refine RQ.ret rfl rfl ?_
        first | (exfalso; omega) | (refine ⟨?_, rfl⟩; congr 3; unfold pcm; (repeat (first | rw [if_pos (by omega)] | rw [if_neg (by omega)])); done)
      · skip
        refine RQ.seg 1 (pc' := 16) (L' := [some (.retAddr 13), some (.int (iI c)), some (.int (iI 2))]) (st' := [.int (iI 2)]) (g1 := g) rfl ?_
        refine RQ.ret rfl rfl ?_
        first | (exfalso; omega) | (refine ⟨?_, rfl⟩; congr 3; unfold pcm; (repeat (first | rw [if_pos (by omega)] | rw [if_neg (by omega)])); done)
    · skip
      refine RQ.seg 1 (pc' := 16) (L' := [some (.retAddr 13), some (.int (iI c)), some (.int (iI 1))]) (st' := [.int (iI 1)]) (g1 := g) rfl ?_
      refine RQ.ret rfl rfl ?_
      first | (exfalso; omega) | (refine ⟨?_, rfl⟩; congr 3; unfold pcm; (repeat (first | rw [if_pos (by omega)] | rw [if_neg (by omega)])); done)
  · skip
    refine RQ.seg 1 (pc' := 16) (L' := [some (.retAddr 13), some (.int (iI c)), some (.int (iI 0))]) (st' := [.int (iI 0)]) (g1 := g) rfl ?_
    refine RQ.ret rfl rfl ?_
    first | (exfalso; omega) | (refine ⟨?_, rfl⟩; congr 3; unfold pcm; (repeat (first | rw [if_pos (by omega)] | rw [if_neg (by omega)])); done)
theorem x_fine14t {K : PK} {d : Nat} {sc : Nat → Int} {ar : Nat → Int → Int} {tx oc : Nat} {rl : Nat → Option Nat} {ou : Nat → Int64} {tl : List PO} {q : Nat × Nat} (rw0 : -1 ≤ sc 1402 ∧ sc 1402 ≤ 200) (hc : sc 1402 = -1) : CallR K (d + 1) 51 [.ref 14] (HW sc ar tx oc rl ou tl, q) (some (.int (iI 1))) (HW sc ar tx oc rl ou tl, q) := by
  apply CQ.x
  refine CQ.of (own := 12) (n := 1) (ini := false) (rt := (some .boolean)) (cd := cd51) (by decide +kernel) rfl (by decide +kernel) rfl (Nat.le_of_ble_eq_true rfl) ?_
  refine RQ.seg 3 (pc' := 5) (L' := [some (.ref 14)]) (st' := [.int (iI (-1)), .int (iI (sc 1402))]) (g1 := (HW sc ar tx oc rl ou tl, q)) rfl ?_
  refine RQ.if2 (a := (sc 1402)) (b := (-1)) rfl rfl rfl rfl (by omega) (by omega) (fun (h1 : sc 1402 ≠ (-1)) => ?_) (fun (h1 : ¬ sc 1402 ≠ (-1)) => ?_)
  · skip
    refine RQ.seg 1 (pc' := 13) (L' := [some (.ref 14)]) (st' := [.int (iI 0)]) (g1 := (HW sc ar tx oc rl ou tl, q)) rfl ?_
    refine RQ.ret rfl rfl ?_
    first | exact ⟨rfl, rfl⟩ | (exfalso; omega)
  · skip
    refine RQ.seg 2 (pc' := 13) (L' := [some (.ref 14)]) (st' := [.int (iI 1)]) (g1 := (HW sc ar tx oc rl ou tl, q)) rfl ?_
    refine RQ.ret rfl rfl ?_
    first | exact ⟨rfl, rfl⟩ | (exfalso; omega)
theorem x_fine14f {K : PK} {d : Nat} {sc : Nat → Int} {ar : Nat → Int → Int} {tx oc : Nat} {rl : Nat → Option Nat} {ou : Nat → Int64} {tl : List PO} {q : Nat × Nat} (rw0 : -1 ≤ sc 1402 ∧ sc 1402 ≤ 200) (hc : ¬ sc 1402 = -1) : CallR K (d + 1) 51 [.ref 14] (HW sc ar tx oc rl ou tl, q) (some (.int (iI 0))) (HW sc ar tx oc rl ou tl, q) := by
  apply CQ.x
  refine CQ.of (own := 12) (n := 1) (ini := false) (rt := (some .boolean)) (cd := cd51) (by decide +kernel) rfl (by decide +kernel) rfl (Nat.le_of_ble_eq_true rfl) ?_
  refine RQ.seg 3 (pc' := 5) (L' := [some (.ref 14)]) (st' := [.int (iI (-1)), .int (iI (sc 1402))]) (g1 := (HW sc ar tx oc rl ou tl, q)) rfl ?_
  refine RQ.if2 (a := (sc 1402)) (b := (-1)) rfl rfl rfl rfl (by omega) (by omega) (fun (h1 : sc 1402 ≠ (-1)) => ?_) (fun (h1 : ¬ sc 1402 ≠ (-1)) => ?_)
  · skip
    refine RQ.seg 1 (pc' := 13) (L' := [some (.ref 14)]) (st' := [.int (iI 0)]) (g1 := (HW sc ar tx oc rl ou tl, q)) rfl ?_
    refine RQ.ret rfl rfl ?_
    first | exact ⟨rfl, rfl⟩ | (exfalso; omega)
  · skip
    refine RQ.seg 2 (pc' := 13) (L' := [some (.ref 14)]) (st' := [.int (iI 1)]) (g1 := (HW sc ar tx oc rl ou tl, q)) rfl ?_
    refine RQ.ret rfl rfl ?_
    first | exact ⟨rfl, rfl⟩ | (exfalso; omega)
theorem x_refuse14 {K : PK} {d : Nat} {sc : Nat → Int} {ar : Nat → Int → Int} {tx oc : Nat} {rl : Nat → Option Nat} {ou : Nat → Int64} {tl : List PO} {q : Nat × Nat} {p : Int} (rw0 : -1 ≤ sc 1402 ∧ sc 1402 ≤ 200) : CallR K (d + 1) 52 [.ref 14, .int (iI p)] (HW sc ar tx oc rl ou tl, q) none (HW (usc sc 1402 (if sc 1402 = -1 then p else sc 1402)) ar tx oc rl ou tl, q) := by
  apply CQ.x
  refine CQ.of (own := 12) (n := 2) (ini := false) (rt := none) (cd := cd52) (by decide +kernel) rfl (by decide +kernel) rfl (Nat.le_of_ble_eq_true rfl) ?_
  refine RQ.seg 3 (pc' := 5) (L' := [some (.ref 14), some (.int (iI p))]) (st' := [.int (iI (-1)), .int (iI (sc 1402))]) (g1 := (HW sc ar tx oc rl ou tl, q)) rfl ?_
  refine RQ.if2 (a := (sc 1402)) (b := (-1)) rfl rfl rfl rfl (by omega) (by omega) (fun (h1 : sc 1402 ≠ (-1)) => ?_) (fun (h1 : ¬ sc 1402 ≠ (-1)) => ?_)
  · skip
    refine RQ.ret rfl rfl ?_
    exact ⟨rfl, by rw [if_neg (by omega)]; exact HW_e (usc_id sc 1402).symm rfl⟩
  · skip
    refine RQ.seg 3 (pc' := 13) (L' := [some (.ref 14), some (.int (iI p))]) (st' := []) (g1 := (HW (usc sc 1402 p) ar tx oc rl ou tl, q)) rfl ?_
    refine RQ.ret rfl rfl ?_
    exact ⟨rfl, by rw [if_pos (by omega)]⟩
theorem x_begin14 {K : PK} {d : Nat} {sc : Nat → Int} {ar : Nat → Int → Int} {tx oc : Nat} {rl : Nat → Option Nat} {ou : Nat → Int64} {tl : List PO} {q : Nat × Nat}  : CallR K (d + 1) 50 [.ref 14] (HW sc ar tx oc rl ou tl, q) none (HW (usc (usc sc 1401 0) 1402 (-1)) ar tx oc rl ou tl, q) := by
  apply CQ.x
  refine CQ.of (own := 12) (n := 1) (ini := false) (rt := none) (cd := cd50) (by decide +kernel) rfl (by decide +kernel) rfl (Nat.le_of_ble_eq_true rfl) ?_
  refine RQ.seg 6 (pc' := 10) (L' := [some (.ref 14)]) (st' := []) (g1 := (HW (usc (usc sc 1401 0) 1402 (-1)) ar tx oc rl ou tl, q)) rfl ?_
  refine RQ.ret rfl rfl ?_
  exact ⟨rfl, rfl⟩
theorem x_look14_l {K : PK} {d : Nat} {sc : Nat → Int} {ar : Nat → Int → Int} {tx oc : Nat} {rl : Nat → Option Nat} {ou : Nat → Int64} {tl : List PO} {q : Nat × Nat} {Q : Option Value → PG → Prop} {tp : List Int} (ht : TpOK tp) (hs : sc 101 = (tp.length : Int)) (hl : LAt (fun v => v) (ar 2) tp) : ∀ (m : Nat) (a : Int) (hm : a + m = (tp.length : Int)) (ha : 0 ≤ a) (hk : Q (some (.int (iI (lk tp a)))) (HW (usc sc 1401 (sk tp a)) ar tx oc rl ou tl, q)), RQ K (d + 0) 12 false (some .int) cd53 0 [some (.ref 14)] [] (HW (usc sc 1401 a) ar tx oc rl ou tl, q) Q
  | 0, a, hm, ha, hk => by
    have ht1 := ht.1
    refine RQ.seg 5 (pc' := 11) (L' := [some (.ref 14)]) (st' := [.int (iI (sc 101)), .int (iI a)]) (g1 := (HW (usc sc 1401 a) ar tx oc rl ou tl, q)) rfl ?_
    refine RQ.to (L' := [some (.ref 14)]) (st' := [.int (iI (tp.length : Int)), .int (iI a)]) rfl (by rw [show sc 101 = (tp.length : Int) from hs]) ?_
    refine RQ.if2 (a := a) (b := (tp.length : Int)) rfl rfl rfl rfl (by omega) (by omega) (fun _ => ?_) (fun (q : ¬ (tp.length : Int) ≤ a) => absurd (show (tp.length : Int) ≤ a from by omega) q)
    refine RQ.seg 5 (pc' := 55) (L' := [some (.ref 14)]) (st' := [.int (iI (sc 101)), .int (iI a)]) (g1 := (HW (usc sc 1401 a) ar tx oc rl ou tl, q)) rfl ?_
    refine RQ.to (L' := [some (.ref 14)]) (st' := [.int (iI (tp.length : Int)), .int (iI a)]) rfl (by rw [show sc 101 = (tp.length : Int) from hs]) ?_
    refine RQ.if2 (a := a) (b := (tp.length : Int)) rfl rfl rfl rfl (by omega) (by omega) (fun _ => ?_) (fun (q : ¬ (tp.length : Int) ≤ a) => absurd (show (tp.length : Int) ≤ a from by omega) q)
    refine RQ.seg 1 (pc' := 74) (L' := [some (.ref 14)]) (st' := [.int (iI 0)]) (g1 := (HW (usc sc 1401 a) ar tx oc rl ou tl, q)) rfl ?_
    refine RQ.ret rfl rfl ?_
    have e9 : sk tp a = a := sk_f (by omega)
    rw [show lk tp a = 0 by unfold lk; rw [e9]; exact tch_out (by omega), e9] at hk
    exact hk
  | m + 1, a, hm, ha, hk => by
    have ht1 := ht.1
    have hla := ht.2 a (by omega) (by omega)
    refine RQ.seg 5 (pc' := 11) (L' := [some (.ref 14)]) (st' := [.int (iI (sc 101)), .int (iI a)]) (g1 := (HW (usc sc 1401 a) ar tx oc rl ou tl, q)) rfl ?_
    refine RQ.to (L' := [some (.ref 14)]) (st' := [.int (iI (tp.length : Int)), .int (iI a)]) rfl (by rw [show sc 101 = (tp.length : Int) from hs]) ?_
    refine RQ.if2 (a := a) (b := (tp.length : Int)) rfl rfl rfl rfl (by omega) (by omega) (fun (q : (tp.length : Int) ≤ a) => absurd q (show ¬ (tp.length : Int) ≤ a from by omega)) (fun _ => ?_)
    refine RQ.seg 5 (pc' := 25) (L' := [some (.ref 14)]) (st' := [.int (iI a), .ref 2]) (g1 := (HW (usc sc 1401 a) ar tx oc rl ou tl, q)) rfl ?_
    refine RQ.ialdv (z := a) (v := (lat tp a)) rfl rfl rfl (by omega) (by decide) (hl a (by omega) (by omega)) ?_
    refine RQ.seg 1 (pc' := 28) (L' := [some (.ref 14)]) (st' := [.int (iI 32), .int (iI (lat tp a))]) (g1 := (HW (usc sc 1401 a) ar tx oc rl ou tl, q)) rfl ?_
    refine RQ.if2 (a := (lat tp a)) (b := 32) rfl rfl rfl rfl (by omega) (by omega) (fun (h2 : lat tp a ≠ 32) => ?_) (fun (h2 : ¬ lat tp a ≠ 32) => ?_)
    · skip
      refine RQ.seg 5 (pc' := 55) (L' := [some (.ref 14)]) (st' := [.int (iI (sc 101)), .int (iI a)]) (g1 := (HW (usc sc 1401 a) ar tx oc rl ou tl, q)) rfl ?_
      refine RQ.to (L' := [some (.ref 14)]) (st' := [.int (iI (tp.length : Int)), .int (iI a)]) rfl (by rw [show sc 101 = (tp.length : Int) from hs]) ?_
      refine RQ.if2 (a := a) (b := (tp.length : Int)) rfl rfl rfl rfl (by omega) (by omega) (fun (q : (tp.length : Int) ≤ a) => absurd q (show ¬ (tp.length : Int) ≤ a from by omega)) (fun _ => ?_)
      refine RQ.seg 5 (pc' := 69) (L' := [some (.ref 14)]) (st' := [.int (iI a), .ref 2]) (g1 := (HW (usc sc 1401 a) ar tx oc rl ou tl, q)) rfl ?_
      refine RQ.ialdv (z := a) (v := (lat tp a)) rfl rfl rfl (by omega) (by decide) (hl a (by omega) (by omega)) ?_
      refine RQ.seg 1 (pc' := 74) (L' := [some (.ref 14)]) (st' := [.int (iI (lat tp a))]) (g1 := (HW (usc sc 1401 a) ar tx oc rl ou tl, q)) rfl ?_
      refine RQ.ret rfl rfl ?_
      have e9 : sk tp a = a := sk_f (by omega)
      rw [show lk tp a = lat tp a by unfold lk; rw [e9]; exact tch_in (by omega), e9] at hk
      exact hk
    · skip
      refine RQ.seg 5 (pc' := 38) (L' := [some (.ref 14)]) (st' := [.int ((iI a) + (iI 1)), .ref 14]) (g1 := (HW (usc sc 1401 a) ar tx oc rl ou tl, q)) rfl ?_
      refine RQ.to (L' := [some (.ref 14)]) (st' := [.int (iI (a + 1)), .ref 14]) rfl (by simp only [iI_add, iI_sub, iI_mul, iI_neg]) ?_
      refine RQ.seg 2 (pc' := 0) (L' := [some (.ref 14)]) (st' := []) (g1 := (HW (usc sc 1401 (a + 1)) ar tx oc rl ou tl, q)) rfl ?_
      rw [show lk tp a = lk tp (a + 1) by unfold lk; rw [sk_t (by omega)], sk_t (by omega)] at hk
      exact x_look14_l ht hs hl m (a + 1) (by omega) (by omega) hk
theorem x_look14 {K : PK} {d : Nat} {sc : Nat → Int} {ar : Nat → Int → Int} {tx oc : Nat} {rl : Nat → Option Nat} {ou : Nat → Int64} {tl : List PO} {q : Nat × Nat} {tp : List Int} (ht : TpOK tp) (hs : sc 101 = (tp.length : Int)) (hl : LAt (fun v => v) (ar 2) tp) {a : Int} (ha : sc 1401 = a) (hr : 0 ≤ a ∧ a ≤ (tp.length : Int)) : CallR K (d + 1) 53 [.ref 14] (HW sc ar tx oc rl ou tl, q) (some (.int (iI (lk tp a)))) (HW (usc sc 1401 (sk tp a)) ar tx oc rl ou tl, q) := by
  apply CQ.x
  refine CQ.of (own := 12) (n := 1) (ini := false) (rt := (some .int)) (cd := cd53) (by decide +kernel) rfl (by decide +kernel) rfl (Nat.le_of_ble_eq_true rfl) ?_
  refine RQ.hp (g1 := (HW (usc sc 1401 a) ar tx oc rl ou tl, q)) (HW_e (by rw [← ha]; exact (usc_id sc 1401).symm) rfl) ?_
  exact x_look14_l ht hs hl ((tp.length : Int) - a).toNat a (by omega) hr.1 ⟨rfl, rfl⟩
theorem x_here14 {K : PK} {d : Nat} {sc : Nat → Int} {ar : Nat → Int → Int} {tx oc : Nat} {rl : Nat → Option Nat} {ou : Nat → Int64} {tl : List PO} {q : Nat × Nat} {tp : List Int} (ht : TpOK tp) (hs : sc 101 = (tp.length : Int)) (hl : LAt (fun v => v) (ar 2) tp) {a : Int} (ha : sc 1401 = a) (hr : 0 ≤ a ∧ a ≤ (tp.length : Int)) : CallR K (d + 1) 54 [.ref 14] (HW sc ar tx oc rl ou tl, q) (some (.int (iI (tch tp a)))) (HW sc ar tx oc rl ou tl, q) := by
  apply CQ.x
  have ht1 := ht.1
  refine CQ.of (own := 12) (n := 1) (ini := false) (rt := (some .int)) (cd := cd54) (by decide +kernel) rfl (by decide +kernel) rfl (Nat.le_of_ble_eq_true rfl) ?_
  refine RQ.seg 2 (pc' := 4) (L' := [some (.ref 14)]) (st' := [.int (iI (sc 1401))]) (g1 := (HW sc ar tx oc rl ou tl, q)) rfl ?_
  refine RQ.to (L' := [some (.ref 14)]) (st' := [.int (iI a)]) rfl (by rw [show sc 1401 = a from ha]) ?_
  refine RQ.if1 (a := a) rfl rfl rfl (by omega) (fun (h1 : a < 0) => ?_) (fun (h1 : ¬ a < 0) => ?_)
  · skip
    refine RQ.seg 1 (pc' := 37) (L' := [some (.ref 14)]) (st' := [.int (iI 0)]) (g1 := (HW sc ar tx oc rl ou tl, q)) rfl ?_
    refine RQ.ret rfl rfl ?_
    exact ⟨by rw [show tch tp a = 0 from tch_out (by omega)], rfl⟩
  · skip
    refine RQ.seg 2 (pc' := 11) (L' := [some (.ref 14)]) (st' := [.int (iI (sc 1401))]) (g1 := (HW sc ar tx oc rl ou tl, q)) rfl ?_
    refine RQ.to (L' := [some (.ref 14)]) (st' := [.int (iI a)]) rfl (by rw [show sc 1401 = a from ha]) ?_
    refine RQ.seg 3 (pc' := 18) (L' := [some (.ref 14)]) (st' := [.int (iI (sc 101)), .int (iI a)]) (g1 := (HW sc ar tx oc rl ou tl, q)) rfl ?_
    refine RQ.to (L' := [some (.ref 14)]) (st' := [.int (iI (tp.length : Int)), .int (iI a)]) rfl (by rw [show sc 101 = (tp.length : Int) from hs]) ?_
    refine RQ.if2 (a := a) (b := (tp.length : Int)) rfl rfl rfl rfl (by omega) (by omega) (fun (h2 : (tp.length : Int) ≤ a) => ?_) (fun (h2 : ¬ (tp.length : Int) ≤ a) => ?_)
    · skip
      refine RQ.seg 1 (pc' := 37) (L' := [some (.ref 14)]) (st' := [.int (iI 0)]) (g1 := (HW sc ar tx oc rl ou tl, q)) rfl ?_
      refine RQ.ret rfl rfl ?_
      exact ⟨by rw [show tch tp a = 0 from tch_out (by omega)], rfl⟩
    · skip
      refine RQ.seg 5 (pc' := 32) (L' := [some (.ref 14)]) (st' := [.int (iI (sc 1401)), .ref 2]) (g1 := (HW sc ar tx oc rl ou tl, q)) rfl ?_
      refine RQ.to (L' := [some (.ref 14)]) (st' := [.int (iI a), .ref 2]) rfl (by rw [show sc 1401 = a from ha]) ?_
      refine RQ.ialdv (z := a) (v := (lat tp a)) rfl rfl rfl (by omega) (by decide) (hl a (by omega) (by omega)) ?_
      refine RQ.seg 1 (pc' := 37) (L' := [some (.ref 14)]) (st' := [.int (iI (lat tp a))]) (g1 := (HW sc ar tx oc rl ou tl, q)) rfl ?_
      refine RQ.ret rfl rfl ?_
      exact ⟨by rw [show tch tp a = lat tp a from tch_in (by omega)], rfl⟩
theorem x_expect14 {K : PK} {d : Nat} {sc : Nat → Int} {ar : Nat → Int → Int} {tx oc : Nat} {rl : Nat → Option Nat} {ou : Nat → Int64} {tl : List PO} {q : Nat × Nat} {tp : List Int} (ht : TpOK tp) (hs : sc 101 = (tp.length : Int)) (hl : LAt (fun v => v) (ar 2) tp) {a w0 c : Int} (ha : sc 1401 = a) (hr : 0 ≤ a ∧ a ≤ (tp.length : Int)) (hw : sc 1402 = w0) (rw0 : -1 ≤ w0 ∧ w0 ≤ 200) (rc : 1 ≤ c ∧ c ≤ 255) : CallR K (d + 2) 55 [.ref 14, .int (iI c)] (HW sc ar tx oc rl ou tl, q) none (HW (usc (usc sc 1401 (if lk tp a = c then sk tp a + 1 else sk tp a)) 1402 (if lk tp a = c then w0 else if w0 = -1 then sk tp a else w0)) ar tx oc rl ou tl, q) := by
  apply CQ.x
  have ht1 := ht.1
  subst hw
  refine CQ.of (own := 12) (n := 2) (ini := false) (rt := none) (cd := cd55) (by decide +kernel) rfl (by decide +kernel) rfl (Nat.le_of_ble_eq_true rfl) ?_
  refine RQ.seg 1 (pc' := 1) (L' := [some (.ref 14), some (.int (iI c))]) (st' := [.ref 14]) (g1 := (HW sc ar tx oc rl ou tl, q)) rfl ?_
  have hlr := tch_r ht (sk tp a)
  have hlk : 0 ≤ lk tp a ∧ lk tp a ≤ 255 := hlr
  have hsk := sk_r (tp := tp) hr.2
  refine RQ.call rfl rfl (x_look14 ht hs hl ha hr) ?_
  refine RQ.seg 1 (pc' := 5) (L' := [some (.ref 14), some (.int (iI c))]) (st' := [.int (iI c), .int (iI (lk tp a))]) (g1 := (HW (usc sc 1401 (sk tp a)) ar tx oc rl ou tl, q)) rfl ?_
  refine RQ.if2 (a := (lk tp a)) (b := c) rfl rfl rfl rfl (by omega) (by omega) (fun (h1 : lk tp a ≠ c) => ?_) (fun (h1 : ¬ lk tp a ≠ c) => ?_)
  · skip
    refine RQ.seg 3 (pc' := 26) (L' := [some (.ref 14), some (.int (iI c))]) (st' := [.int (iI (sk tp a)), .ref 14]) (g1 := (HW (usc sc 1401 (sk tp a)) ar tx oc rl ou tl, q)) rfl ?_
    refine RQ.call rfl rfl (x_refuse14 (sc := usc sc 1401 (sk tp a)) (ar := ar) (p := sk tp a) (by show -1 ≤ sc 1402 ∧ sc 1402 ≤ 200; omega)) ?_
    refine RQ.ret rfl rfl ?_
    have hc9 : ¬ lk tp a = c := by omega
    exact ⟨rfl, by rw [if_neg hc9, if_neg hc9]; rfl⟩
  · skip
    refine RQ.seg 5 (pc' := 15) (L' := [some (.ref 14), some (.int (iI c))]) (st' := [.int ((iI (sk tp a)) + (iI 1)), .ref 14]) (g1 := (HW (usc sc 1401 (sk tp a)) ar tx oc rl ou tl, q)) rfl ?_
    refine RQ.to (L' := [some (.ref 14), some (.int (iI c))]) (st' := [.int (iI (sk tp a + 1)), .ref 14]) rfl (by simp only [iI_add, iI_sub, iI_mul, iI_neg]) ?_
    refine RQ.seg 2 (pc' := 29) (L' := [some (.ref 14), some (.int (iI c))]) (st' := []) (g1 := (HW (usc sc 1401 (sk tp a + 1)) ar tx oc rl ou tl, q)) rfl ?_
    refine RQ.ret rfl rfl ?_
    have hc9 : lk tp a = c := by omega
    refine ⟨rfl, ?_⟩
    rw [if_pos hc9, if_pos hc9]
    exact HW_e (usc_id (usc sc 1401 (sk tp a + 1)) 1402).symm rfl
theorem x_num14_l {K : PK} {d : Nat} {sc : Nat → Int} {ar : Nat → Int → Int} {tx oc : Nat} {rl : Nat → Option Nat} {ou : Nat → Int64} {tl : List PO} {q : Nat × Nat} {Q : Option Value → PG → Prop} {k : Nat} (hk4 : k ≤ 4) {tp : List Int} (ht : TpOK tp) (hs : sc 101 = (tp.length : Int)) (hl : LAt (fun v => v) (ar 2) tp) : ∀ (m : Nat) (i p v : Int) (hm : i + m = k) (hi : 0 ≤ i) (hp : 0 ≤ p ∧ p ≤ (tp.length : Int)) (hv : 0 ≤ v ∧ v < 10 ^ i.toNat) (hk : ∀ i, RQ K (d + 1) 12 false (some .int) cd56 68 [some (.ref 14), some (.int (iI (k : Int))), some (.int (iI ((nmn tp m p v).1))), some (.int (iI i))] [] (HW (usc sc 1401 ((nmn tp m p v).2)) ar tx oc rl ou tl, q) Q), RQ K (d + 1) 12 false (some .int) cd56 24 [some (.ref 14), some (.int (iI (k : Int))), some (.int (iI v)), some (.int (iI i))] [] (HW (usc sc 1401 p) ar tx oc rl ou tl, q) Q
  | 0, i, p, v, hm, hi, hp, hv, hk => by
    have ht1 := ht.1
    have hcr := tch_r ht p
    refine RQ.seg 2 (pc' := 26) (L' := [some (.ref 14), some (.int (iI (k : Int))), some (.int (iI v)), some (.int (iI i))]) (st' := [.int (iI (k : Int)), .int (iI i)]) (g1 := (HW (usc sc 1401 p) ar tx oc rl ou tl, q)) rfl ?_
    refine RQ.if2 (a := i) (b := (k : Int)) rfl rfl rfl rfl (by omega) (by omega) (fun _ => ?_) (fun (q : ¬ (k : Int) ≤ i) => absurd (show (k : Int) ≤ i from by omega) q)
    exact hk i
  | m + 1, i, p, v, hm, hi, hp, hv, hk => by
    have ht1 := ht.1
    have hcr := tch_r ht p
    refine RQ.seg 2 (pc' := 26) (L' := [some (.ref 14), some (.int (iI (k : Int))), some (.int (iI v)), some (.int (iI i))]) (st' := [.int (iI (k : Int)), .int (iI i)]) (g1 := (HW (usc sc 1401 p) ar tx oc rl ou tl, q)) rfl ?_
    refine RQ.if2 (a := i) (b := (k : Int)) rfl rfl rfl rfl (by omega) (by omega) (fun (q : (k : Int) ≤ i) => absurd q (show ¬ (k : Int) ≤ i from by omega)) (fun _ => ?_)
    refine RQ.seg 1 (pc' := 30) (L' := [some (.ref 14), some (.int (iI (k : Int))), some (.int (iI v)), some (.int (iI i))]) (st' := [.ref 14]) (g1 := (HW (usc sc 1401 p) ar tx oc rl ou tl, q)) rfl ?_
    refine RQ.call rfl rfl (x_here14 (sc := usc sc 1401 p) (ar := ar) (a := p) ht hs hl rfl hp) ?_
    rcases Decidable.em (dig (tch tp p)) with hd | hd
    · skip
      rw [nmn, if_pos hd] at hk
      have hpp := tch_pos (tp := tp) (p := p) (by omega)
      refine RQ.call rfl rfl (x_dig_t (by omega) hd) ?_
      refine RQ.seg 5 (pc' := 44) (L' := [some (.ref 14), some (.int (iI (k : Int))), some (.int (iI v)), some (.int (iI i))]) (st' := [.ref 14, .int ((iI v) * (iI 10))]) (g1 := (HW (usc sc 1401 p) ar tx oc rl ou tl, q)) rfl ?_
      refine RQ.to (L' := [some (.ref 14), some (.int (iI (k : Int))), some (.int (iI v)), some (.int (iI i))]) (st' := [.ref 14, .int (iI (v * 10))]) rfl (by simp only [iI_add, iI_sub, iI_mul, iI_neg]) ?_
      refine RQ.call rfl rfl (x_here14 (sc := usc sc 1401 p) (ar := ar) (a := p) ht hs hl rfl hp) ?_
      refine RQ.seg 9 (pc' := 59) (L' := [some (.ref 14), some (.int (iI (k : Int))), some (.int ((iI (v * 10)) + ((iI (tch tp p)) - (iI 48)))), some (.int (iI i))]) (st' := [.int ((iI p) + (iI 1)), .ref 14]) (g1 := (HW (usc sc 1401 p) ar tx oc rl ou tl, q)) rfl ?_
      refine RQ.to (L' := [some (.ref 14), some (.int (iI (k : Int))), some (.int (iI (v * 10 + (tch tp p - 48)))), some (.int (iI i))]) (st' := [.int (iI (p + 1)), .ref 14]) (by simp only [iI_add, iI_sub, iI_mul, iI_neg]) (by simp only [iI_add, iI_sub, iI_mul, iI_neg]) ?_
      refine RQ.seg 3 (pc' := 24) (L' := [some (.ref 14), some (.int (iI (k : Int))), some (.int (iI (v * 10 + (tch tp p - 48)))), some (.int ((iI i) + (iI 1)))]) (st' := []) (g1 := (HW (usc sc 1401 (p + 1)) ar tx oc rl ou tl, q)) rfl ?_
      refine RQ.to (L' := [some (.ref 14), some (.int (iI (k : Int))), some (.int (iI (v * 10 + (tch tp p - 48)))), some (.int (iI (i + 1)))]) (st' := []) (by simp only [iI_add, iI_sub, iI_mul, iI_neg]) rfl ?_
      refine x_num14_l hk4 ht hs hl m (i + 1) (p + 1) _ (by omega) (by omega) (by omega) ⟨by omega, ?_⟩ hk
      have e1 : (10 : Int) ^ (i + 1).toNat = 10 ^ i.toNat * 10 := by rw [show (i + 1).toNat = i.toNat + 1 by omega, Int.pow_succ]
      rw [e1]; omega
    · skip
      rw [nmn, if_neg hd] at hk
      refine RQ.call rfl rfl (x_dig_f (by omega) hd) ?_
      refine RQ.seg 1 (pc' := 68) (L' := [some (.ref 14), some (.int (iI (k : Int))), some (.int (iI v)), some (.int (iI i))]) (st' := []) (g1 := (HW (usc sc 1401 p) ar tx oc rl ou tl, q)) rfl ?_
      exact hk i
theorem x_number14 {K : PK} {d : Nat} {sc : Nat → Int} {ar : Nat → Int → Int} {tx oc : Nat} {rl : Nat → Option Nat} {ou : Nat → Int64} {tl : List PO} {q : Nat × Nat} {k : Nat} (hk4 : k ≤ 4) {tp : List Int} (ht : TpOK tp) (hs : sc 101 = (tp.length : Int)) (hl : LAt (fun v => v) (ar 2) tp) {a w0 : Int} (ha : sc 1401 = a) (hr : 0 ≤ a ∧ a ≤ (tp.length : Int)) (hw : sc 1402 = w0) (rw0 : -1 ≤ w0 ∧ w0 ≤ 200) : CallR K (d + 2) 56 [.ref 14, .int (iI (k : Int))] (HW sc ar tx oc rl ou tl, q) (some (.int (iI ((nmR tp k a).2.1)))) (HW (usc (usc sc 1401 ((nmR tp k a).2.2)) 1402 (if w0 = -1 then (nmR tp k a).1 else w0)) ar tx oc rl ou tl, q) := by
  apply CQ.x
  have ht1 := ht.1
  subst hw
  refine CQ.of (own := 12) (n := 4) (ini := false) (rt := (some .int)) (cd := cd56) (by decide +kernel) rfl (by decide +kernel) rfl (Nat.le_of_ble_eq_true rfl) ?_
  refine RQ.seg 1 (pc' := 1) (L' := [some (.ref 14), some (.int (iI (k : Int))), none, none]) (st' := [.ref 14]) (g1 := (HW sc ar tx oc rl ou tl, q)) rfl ?_
  have hlr := tch_r ht (sk tp a)
  have hlk : 0 ≤ lk tp a ∧ lk tp a ≤ 255 := hlr
  have hsk := sk_r (tp := tp) hr.2
  have hne := nmn_r (tp := tp) k (sk tp a) 0 (by omega) (by omega)
  refine RQ.call rfl rfl (CallR.up (d := 1) (x_look14 (d := 0) ht hs hl ha hr) (by omega)) ?_
  rcases Decidable.em (dig (lk tp a)) with hd1 | hd1
  · skip
    refine RQ.call rfl rfl (CallR.up (d := 1) (x_dig_t (d := 0) (by omega) hd1) (by omega)) ?_
    refine RQ.seg 5 (pc' := 24) (L' := [some (.ref 14), some (.int (iI (k : Int))), some (.int (iI 0)), some (.int (iI 0))]) (st' := []) (g1 := (HW (usc sc 1401 (sk tp a)) ar tx oc rl ou tl, q)) rfl ?_
    refine x_num14_l (k := k) hk4 ht hs hl k 0 (sk tp a) 0 (by omega) (by omega) (by omega) (by decide) (fun i => ?_)
    refine RQ.seg 1 (pc' := 69) (L' := [some (.ref 14), some (.int (iI (k : Int))), some (.int (iI ((nmn tp k (sk tp a) 0).1))), some (.int (iI i))]) (st' := [.ref 14]) (g1 := (HW (usc sc 1401 ((nmn tp k (sk tp a) 0).2)) ar tx oc rl ou tl, q)) rfl ?_
    have hcr := tch_r ht ((nmn tp k (sk tp a) 0).2)
    refine RQ.call rfl rfl (CallR.up (d := 1) (x_here14 (d := 0) (sc := usc sc 1401 ((nmn tp k (sk tp a) 0).2)) (ar := ar) (a := (nmn tp k (sk tp a) 0).2) ht hs hl rfl (by omega)) (by omega)) ?_
    rcases Decidable.em (dig (tch tp ((nmn tp k (sk tp a) 0).2))) with hd2 | hd2
    · skip
      refine RQ.call rfl rfl (CallR.up (d := 1) (x_dig_t (d := 0) (by omega) hd2) (by omega)) ?_
      refine RQ.seg 4 (pc' := 83) (L' := [some (.ref 14), some (.int (iI (k : Int))), some (.int (iI ((nmn tp k (sk tp a) 0).1))), some (.int (iI i))]) (st' := [.int (iI ((nmn tp k (sk tp a) 0).2)), .ref 14]) (g1 := (HW (usc sc 1401 ((nmn tp k (sk tp a) 0).2)) ar tx oc rl ou tl, q)) rfl ?_
      refine RQ.call rfl rfl (CallR.up (d := 1) (x_refuse14 (d := 0) (sc := usc sc 1401 ((nmn tp k (sk tp a) 0).2)) (ar := ar) (p := (nmn tp k (sk tp a) 0).2) (by show -1 ≤ sc 1402 ∧ sc 1402 ≤ 200; omega)) (by omega)) ?_
      refine RQ.seg 1 (pc' := 87) (L' := [some (.ref 14), some (.int (iI (k : Int))), some (.int (iI ((nmn tp k (sk tp a) 0).1))), some (.int (iI i))]) (st' := [.int (iI ((nmn tp k (sk tp a) 0).1))]) (g1 := (HW (usc (usc sc 1401 ((nmn tp k (sk tp a) 0).2)) 1402 (if sc 1402 = -1 then (nmn tp k (sk tp a) 0).2 else sc 1402)) ar tx oc rl ou tl, q)) rfl ?_
      refine RQ.ret rfl rfl ?_
      have e9 : nmR tp k a = ((nmn tp k (sk tp a) 0).2, (nmn tp k (sk tp a) 0).1, (nmn tp k (sk tp a) 0).2) := by unfold nmR; rw [if_pos (show dig (tch tp (sk tp a)) from hd1), if_pos hd2]
      rw [e9]
      exact ⟨rfl, rfl⟩
    · skip
      refine RQ.call rfl rfl (CallR.up (d := 1) (x_dig_f (d := 0) (by omega) hd2) (by omega)) ?_
      refine RQ.seg 2 (pc' := 87) (L' := [some (.ref 14), some (.int (iI (k : Int))), some (.int (iI ((nmn tp k (sk tp a) 0).1))), some (.int (iI i))]) (st' := [.int (iI ((nmn tp k (sk tp a) 0).1))]) (g1 := (HW (usc sc 1401 ((nmn tp k (sk tp a) 0).2)) ar tx oc rl ou tl, q)) rfl ?_
      refine RQ.ret rfl rfl ?_
      have e9 : nmR tp k a = (-1, (nmn tp k (sk tp a) 0).1, (nmn tp k (sk tp a) 0).2) := by unfold nmR; rw [if_pos (show dig (tch tp (sk tp a)) from hd1), if_neg hd2]
      rw [e9]
      refine ⟨rfl, ?_⟩
      show _ = (HW (usc (usc sc 1401 (nmn tp k (sk tp a) 0).2) 1402 (if sc 1402 = -1 then -1 else sc 1402)) ar tx oc rl ou tl, q)
      rw [show (if sc 1402 = -1 then -1 else sc 1402) = (usc sc 1401 (nmn tp k (sk tp a) 0).2) 1402 by show _ = sc 1402; split <;> omega]
      exact HW_e (usc_id _ 1402).symm rfl
  · skip
    refine RQ.call rfl rfl (CallR.up (d := 1) (x_dig_f (d := 0) (by omega) hd1) (by omega)) ?_
    refine RQ.seg 4 (pc' := 15) (L' := [some (.ref 14), some (.int (iI (k : Int))), none, none]) (st' := [.int (iI (sk tp a)), .ref 14]) (g1 := (HW (usc sc 1401 (sk tp a)) ar tx oc rl ou tl, q)) rfl ?_
    refine RQ.call rfl rfl (CallR.up (d := 1) (x_refuse14 (d := 0) (sc := usc sc 1401 (sk tp a)) (ar := ar) (p := sk tp a) (by show -1 ≤ sc 1402 ∧ sc 1402 ≤ 200; omega)) (by omega)) ?_
    refine RQ.seg 1 (pc' := 19) (L' := [some (.ref 14), some (.int (iI (k : Int))), none, none]) (st' := [.int (iI 0)]) (g1 := (HW (usc (usc sc 1401 (sk tp a)) 1402 (if sc 1402 = -1 then sk tp a else sc 1402)) ar tx oc rl ou tl, q)) rfl ?_
    refine RQ.ret rfl rfl ?_
    have e9 : nmR tp k a = (sk tp a, 0, sk tp a) := by unfold nmR; exact if_neg hd1
    rw [e9]
    exact ⟨rfl, rfl⟩
theorem x_fine26t {K : PK} {d : Nat} {sc : Nat → Int} {ar : Nat → Int → Int} {tx oc : Nat} {rl : Nat → Option Nat} {ou : Nat → Int64} {tl : List PO} {q : Nat × Nat} (rw0 : -1 ≤ sc 2602 ∧ sc 2602 ≤ 200) (hc : sc 2602 = -1) : CallR K (d + 1) 51 [.ref 26] (HW sc ar tx oc rl ou tl, q) (some (.int (iI 1))) (HW sc ar tx oc rl ou tl, q) := by
  apply CQ.x
  refine CQ.of (own := 12) (n := 1) (ini := false) (rt := (some .boolean)) (cd := cd51) (by decide +kernel) rfl (by decide +kernel) rfl (Nat.le_of_ble_eq_true rfl) ?_
  refine RQ.seg 3 (pc' := 5) (L' := [some (.ref 26)]) (st' := [.int (iI (-1)), .int (iI (sc 2602))]) (g1 := (HW sc ar tx oc rl ou tl, q)) rfl ?_
  refine RQ.if2 (a := (sc 2602)) (b := (-1)) rfl rfl rfl rfl (by omega) (by omega) (fun (h1 : sc 2602 ≠ (-1)) => ?_) (fun (h1 : ¬ sc 2602 ≠ (-1)) => ?_)
  · skip
    refine RQ.seg 1 (pc' := 13) (L' := [some (.ref 26)]) (st' := [.int (iI 0)]) (g1 := (HW sc ar tx oc rl ou tl, q)) rfl ?_
    refine RQ.ret rfl rfl ?_
    first | exact ⟨rfl, rfl⟩ | (exfalso; omega)
  · skip
    refine RQ.seg 2 (pc' := 13) (L' := [some (.ref 26)]) (st' := [.int (iI 1)]) (g1 := (HW sc ar tx oc rl ou tl, q)) rfl ?_
    refine RQ.ret rfl rfl ?_
    first | exact ⟨rfl, rfl⟩ | (exfalso; omega)
theorem x_fine26f {K : PK} {d : Nat} {sc : Nat → Int} {ar : Nat → Int → Int} {tx oc : Nat} {rl : Nat → Option Nat} {ou : Nat → Int64} {tl : List PO} {q : Nat × Nat} (rw0 : -1 ≤ sc 2602 ∧ sc 2602 ≤ 200) (hc : ¬ sc 2602 = -1) : CallR K (d + 1) 51 [.ref 26] (HW sc ar tx oc rl ou tl, q) (some (.int (iI 0))) (HW sc ar tx oc rl ou tl, q) := by
  apply CQ.x
  refine CQ.of (own := 12) (n := 1) (ini := false) (rt := (some .boolean)) (cd := cd51) (by decide +kernel) rfl (by decide +kernel) rfl (Nat.le_of_ble_eq_true rfl) ?_
  refine RQ.seg 3 (pc' := 5) (L' := [some (.ref 26)]) (st' := [.int (iI (-1)), .int (iI (sc 2602))]) (g1 := (HW sc ar tx oc rl ou tl, q)) rfl ?_
  refine RQ.if2 (a := (sc 2602)) (b := (-1)) rfl rfl rfl rfl (by omega) (by omega) (fun (h1 : sc 2602 ≠ (-1)) => ?_) (fun (h1 : ¬ sc 2602 ≠ (-1)) => ?_)
  · skip
    refine RQ.seg 1 (pc' := 13) (L' := [some (.ref 26)]) (st' := [.int (iI 0)]) (g1 := (HW sc ar tx oc rl ou tl, q)) rfl ?_
    refine RQ.ret rfl rfl ?_
    first | exact ⟨rfl, rfl⟩ | (exfalso; omega)
  · skip
    refine RQ.seg 2 (pc' := 13) (L' := [some (.ref 26)]) (st' := [.int (iI 1)]) (g1 := (HW sc ar tx oc rl ou tl, q)) rfl ?_
    refine RQ.ret rfl rfl ?_
    first | exact ⟨rfl, rfl⟩ | (exfalso; omega)
theorem x_refuse26 {K : PK} {d : Nat} {sc : Nat → Int} {ar : Nat → Int → Int} {tx oc : Nat} {rl : Nat → Option Nat} {ou : Nat → Int64} {tl : List PO} {q : Nat × Nat} {p : Int} (rw0 : -1 ≤ sc 2602 ∧ sc 2602 ≤ 200) : CallR K (d + 1) 52 [.ref 26, .int (iI p)] (HW sc ar tx oc rl ou tl, q) none (HW (usc sc 2602 (if sc 2602 = -1 then p else sc 2602)) ar tx oc rl ou tl, q) := by
  apply CQ.x
  refine CQ.of (own := 12) (n := 2) (ini := false) (rt := none) (cd := cd52) (by decide +kernel) rfl (by decide +kernel) rfl (Nat.le_of_ble_eq_true rfl) ?_
  refine RQ.seg 3 (pc' := 5) (L' := [some (.ref 26), some (.int (iI p))]) (st' := [.int (iI (-1)), .int (iI (sc 2602))]) (g1 := (HW sc ar tx oc rl ou tl, q)) rfl ?_
  refine RQ.if2 (a := (sc 2602)) (b := (-1)) rfl rfl rfl rfl (by omega) (by omega) (fun (h1 : sc 2602 ≠ (-1)) => ?_) (fun (h1 : ¬ sc 2602 ≠ (-1)) => ?_)
  · skip
    refine RQ.ret rfl rfl ?_
    exact ⟨rfl, by rw [if_neg (by omega)]; exact HW_e (usc_id sc 2602).symm rfl⟩
  · skip
    refine RQ.seg 3 (pc' := 13) (L' := [some (.ref 26), some (.int (iI p))]) (st' := []) (g1 := (HW (usc sc 2602 p) ar tx oc rl ou tl, q)) rfl ?_
    refine RQ.ret rfl rfl ?_
    exact ⟨rfl, by rw [if_pos (by omega)]⟩
theorem x_begin26 {K : PK} {d : Nat} {sc : Nat → Int} {ar : Nat → Int → Int} {tx oc : Nat} {rl : Nat → Option Nat} {ou : Nat → Int64} {tl : List PO} {q : Nat × Nat}  : CallR K (d + 1) 50 [.ref 26] (HW sc ar tx oc rl ou tl, q) none (HW (usc (usc sc 2601 0) 2602 (-1)) ar tx oc rl ou tl, q) := by
  apply CQ.x
  refine CQ.of (own := 12) (n := 1) (ini := false) (rt := none) (cd := cd50) (by decide +kernel) rfl (by decide +kernel) rfl (Nat.le_of_ble_eq_true rfl) ?_
  refine RQ.seg 6 (pc' := 10) (L' := [some (.ref 26)]) (st' := []) (g1 := (HW (usc (usc sc 2601 0) 2602 (-1)) ar tx oc rl ou tl, q)) rfl ?_
  refine RQ.ret rfl rfl ?_
  exact ⟨rfl, rfl⟩
theorem x_look26_l {K : PK} {d : Nat} {sc : Nat → Int} {ar : Nat → Int → Int} {tx oc : Nat} {rl : Nat → Option Nat} {ou : Nat → Int64} {tl : List PO} {q : Nat × Nat} {Q : Option Value → PG → Prop} {tp : List Int} (ht : TpOK tp) (hs : sc 101 = (tp.length : Int)) (hl : LAt (fun v => v) (ar 2) tp) : ∀ (m : Nat) (a : Int) (hm : a + m = (tp.length : Int)) (ha : 0 ≤ a) (hk : Q (some (.int (iI (lk tp a)))) (HW (usc sc 2601 (sk tp a)) ar tx oc rl ou tl, q)), RQ K (d + 0) 12 false (some .int) cd53 0 [some (.ref 26)] [] (HW (usc sc 2601 a) ar tx oc rl ou tl, q) Q
  | 0, a, hm, ha, hk => by
    have ht1 := ht.1
    refine RQ.seg 5 (pc' := 11) (L' := [some (.ref 26)]) (st' := [.int (iI (sc 101)), .int (iI a)]) (g1 := (HW (usc sc 2601 a) ar tx oc rl ou tl, q)) rfl ?_
    refine RQ.to (L' := [some (.ref 26)]) (st' := [.int (iI (tp.length : Int)), .int (iI a)]) rfl (by rw [show sc 101 = (tp.length : Int) from hs]) ?_
    refine RQ.if2 (a := a) (b := (tp.length : Int)) rfl rfl rfl rfl (by omega) (by omega) (fun _ => ?_) (fun (q : ¬ (tp.length : Int) ≤ a) => absurd (show (tp.length : Int) ≤ a from by omega) q)
    refine RQ.seg 5 (pc' := 55) (L' := [some (.ref 26)]) (st' := [.int (iI (sc 101)), .int (iI a)]) (g1 := (HW (usc sc 2601 a) ar tx oc rl ou tl, q)) rfl ?_
    refine RQ.to (L' := [some (.ref 26)]) (st' := [.int (iI (tp.length : Int)), .int (iI a)]) rfl (by rw [show sc 101 = (tp.length : Int) from hs]) ?_
    refine RQ.if2 (a := a) (b := (tp.length : Int)) rfl rfl rfl rfl (by omega) (by omega) (fun _ => ?_) (fun (q : ¬ (tp.length : Int) ≤ a) => absurd (show (tp.length : Int) ≤ a from by omega) q)
    refine RQ.seg 1 (pc' := 74) (L' := [some (.ref 26)]) (st' := [.int (iI 0)]) (g1 := (HW (usc sc 2601 a) ar tx oc rl ou tl, q)) rfl ?_
    refine RQ.ret rfl rfl ?_
    have e9 : sk tp a = a := sk_f (by omega)
    rw [show lk tp a = 0 by unfold lk; rw [e9]; exact tch_out (by omega), e9] at hk
    exact hk
  | m + 1, a, hm, ha, hk => by
    have ht1 := ht.1
    have hla := ht.2 a (by omega) (by omega)
    refine RQ.seg 5 (pc' := 11) (L' := [some (.ref 26)]) (st' := [.int (iI (sc 101)), .int (iI a)]) (g1 := (HW (usc sc 2601 a) ar tx oc rl ou tl, q)) rfl ?_
    refine RQ.to (L' := [some (.ref 26)]) (st' := [.int (iI (tp.length : Int)), .int (iI a)]) rfl (by rw [show sc 101 = (tp.length : Int) from hs]) ?_
    refine RQ.if2 (a := a) (b := (tp.length : Int)) rfl rfl rfl rfl (by omega) (by omega) (fun (q : (tp.length : Int) ≤ a) => absurd q (show ¬ (tp.length : Int) ≤ a from by omega)) (fun _ => ?_)
    refine RQ.seg 5 (pc' := 25) (L' := [some (.ref 26)]) (st' := [.int (iI a), .ref 2]) (g1 := (HW (usc sc 2601 a) ar tx oc rl ou tl, q)) rfl ?_
    refine RQ.ialdv (z := a) (v := (lat tp a)) rfl rfl rfl (by omega) (by decide) (hl a (by omega) (by omega)) ?_
    refine RQ.seg 1 (pc' := 28) (L' := [some (.ref 26)]) (st' := [.int (iI 32), .int (iI (lat tp a))]) (g1 := (HW (usc sc 2601 a) ar tx oc rl ou tl, q)) rfl ?_
    refine RQ.if2 (a := (lat tp a)) (b := 32) rfl rfl rfl rfl (by omega) (by omega) (fun (h2 : lat tp a ≠ 32) => ?_) (fun (h2 : ¬ lat tp a ≠ 32) => ?_)
    · skip
      refine RQ.seg 5 (pc' := 55) (L' := [some (.ref 26)]) (st' := [.int (iI (sc 101)), .int (iI a)]) (g1 := (HW (usc sc 2601 a) ar tx oc rl ou tl, q)) rfl ?_
      refine RQ.to (L' := [some (.ref 26)]) (st' := [.int (iI (tp.length : Int)), .int (iI a)]) rfl (by rw [show sc 101 = (tp.length : Int) from hs]) ?_
      refine RQ.if2 (a := a) (b := (tp.length : Int)) rfl rfl rfl rfl (by omega) (by omega) (fun (q : (tp.length : Int) ≤ a) => absurd q (show ¬ (tp.length : Int) ≤ a from by omega)) (fun _ => ?_)
      refine RQ.seg 5 (pc' := 69) (L' := [some (.ref 26)]) (st' := [.int (iI a), .ref 2]) (g1 := (HW (usc sc 2601 a) ar tx oc rl ou tl, q)) rfl ?_
      refine RQ.ialdv (z := a) (v := (lat tp a)) rfl rfl rfl (by omega) (by decide) (hl a (by omega) (by omega)) ?_
      refine RQ.seg 1 (pc' := 74) (L' := [some (.ref 26)]) (st' := [.int (iI (lat tp a))]) (g1 := (HW (usc sc 2601 a) ar tx oc rl ou tl, q)) rfl ?_
      refine RQ.ret rfl rfl ?_
      have e9 : sk tp a = a := sk_f (by omega)
      rw [show lk tp a = lat tp a by unfold lk; rw [e9]; exact tch_in (by omega), e9] at hk
      exact hk
    · skip
      refine RQ.seg 5 (pc' := 38) (L' := [some (.ref 26)]) (st' := [.int ((iI a) + (iI 1)), .ref 26]) (g1 := (HW (usc sc 2601 a) ar tx oc rl ou tl, q)) rfl ?_
      refine RQ.to (L' := [some (.ref 26)]) (st' := [.int (iI (a + 1)), .ref 26]) rfl (by simp only [iI_add, iI_sub, iI_mul, iI_neg]) ?_
      refine RQ.seg 2 (pc' := 0) (L' := [some (.ref 26)]) (st' := []) (g1 := (HW (usc sc 2601 (a + 1)) ar tx oc rl ou tl, q)) rfl ?_
      rw [show lk tp a = lk tp (a + 1) by unfold lk; rw [sk_t (by omega)], sk_t (by omega)] at hk
      exact x_look26_l ht hs hl m (a + 1) (by omega) (by omega) hk
theorem x_look26 {K : PK} {d : Nat} {sc : Nat → Int} {ar : Nat → Int → Int} {tx oc : Nat} {rl : Nat → Option Nat} {ou : Nat → Int64} {tl : List PO} {q : Nat × Nat} {tp : List Int} (ht : TpOK tp) (hs : sc 101 = (tp.length : Int)) (hl : LAt (fun v => v) (ar 2) tp) {a : Int} (ha : sc 2601 = a) (hr : 0 ≤ a ∧ a ≤ (tp.length : Int)) : CallR K (d + 1) 53 [.ref 26] (HW sc ar tx oc rl ou tl, q) (some (.int (iI (lk tp a)))) (HW (usc sc 2601 (sk tp a)) ar tx oc rl ou tl, q) := by
  apply CQ.x
  refine CQ.of (own := 12) (n := 1) (ini := false) (rt := (some .int)) (cd := cd53) (by decide +kernel) rfl (by decide +kernel) rfl (Nat.le_of_ble_eq_true rfl) ?_
  refine RQ.hp (g1 := (HW (usc sc 2601 a) ar tx oc rl ou tl, q)) (HW_e (by rw [← ha]; exact (usc_id sc 2601).symm) rfl) ?_
  exact x_look26_l ht hs hl ((tp.length : Int) - a).toNat a (by omega) hr.1 ⟨rfl, rfl⟩
theorem x_here26 {K : PK} {d : Nat} {sc : Nat → Int} {ar : Nat → Int → Int} {tx oc : Nat} {rl : Nat → Option Nat} {ou : Nat → Int64} {tl : List PO} {q : Nat × Nat} {tp : List Int} (ht : TpOK tp) (hs : sc 101 = (tp.length : Int)) (hl : LAt (fun v => v) (ar 2) tp) {a : Int} (ha : sc 2601 = a) (hr : 0 ≤ a ∧ a ≤ (tp.length : Int)) : CallR K (d + 1) 54 [.ref 26] (HW sc ar tx oc rl ou tl, q) (some (.int (iI (tch tp a)))) (HW sc ar tx oc rl ou tl, q) := by
  apply CQ.x
  have ht1 := ht.1
  refine CQ.of (own := 12) (n := 1) (ini := false) (rt := (some .int)) (cd := cd54) (by decide +kernel) rfl (by decide +kernel) rfl (Nat.le_of_ble_eq_true rfl) ?_
  refine RQ.seg 2 (pc' := 4) (L' := [some (.ref 26)]) (st' := [.int (iI (sc 2601))]) (g1 := (HW sc ar tx oc rl ou tl, q)) rfl ?_
  refine RQ.to (L' := [some (.ref 26)]) (st' := [.int (iI a)]) rfl (by rw [show sc 2601 = a from ha]) ?_
  refine RQ.if1 (a := a) rfl rfl rfl (by omega) (fun (h1 : a < 0) => ?_) (fun (h1 : ¬ a < 0) => ?_)
  · skip
    refine RQ.seg 1 (pc' := 37) (L' := [some (.ref 26)]) (st' := [.int (iI 0)]) (g1 := (HW sc ar tx oc rl ou tl, q)) rfl ?_
    refine RQ.ret rfl rfl ?_
    exact ⟨by rw [show tch tp a = 0 from tch_out (by omega)], rfl⟩
  · skip
    refine RQ.seg 2 (pc' := 11) (L' := [some (.ref 26)]) (st' := [.int (iI (sc 2601))]) (g1 := (HW sc ar tx oc rl ou tl, q)) rfl ?_
    refine RQ.to (L' := [some (.ref 26)]) (st' := [.int (iI a)]) rfl (by rw [show sc 2601 = a from ha]) ?_
    refine RQ.seg 3 (pc' := 18) (L' := [some (.ref 26)]) (st' := [.int (iI (sc 101)), .int (iI a)]) (g1 := (HW sc ar tx oc rl ou tl, q)) rfl ?_
    refine RQ.to (L' := [some (.ref 26)]) (st' := [.int (iI (tp.length : Int)), .int (iI a)]) rfl (by rw [show sc 101 = (tp.length : Int) from hs]) ?_
    refine RQ.if2 (a := a) (b := (tp.length : Int)) rfl rfl rfl rfl (by omega) (by omega) (fun (h2 : (tp.length : Int) ≤ a) => ?_) (fun (h2 : ¬ (tp.length : Int) ≤ a) => ?_)
    · skip
      refine RQ.seg 1 (pc' := 37) (L' := [some (.ref 26)]) (st' := [.int (iI 0)]) (g1 := (HW sc ar tx oc rl ou tl, q)) rfl ?_
      refine RQ.ret rfl rfl ?_
      exact ⟨by rw [show tch tp a = 0 from tch_out (by omega)], rfl⟩
    · skip
      refine RQ.seg 5 (pc' := 32) (L' := [some (.ref 26)]) (st' := [.int (iI (sc 2601)), .ref 2]) (g1 := (HW sc ar tx oc rl ou tl, q)) rfl ?_
      refine RQ.to (L' := [some (.ref 26)]) (st' := [.int (iI a), .ref 2]) rfl (by rw [show sc 2601 = a from ha]) ?_
      refine RQ.ialdv (z := a) (v := (lat tp a)) rfl rfl rfl (by omega) (by decide) (hl a (by omega) (by omega)) ?_
      refine RQ.seg 1 (pc' := 37) (L' := [some (.ref 26)]) (st' := [.int (iI (lat tp a))]) (g1 := (HW sc ar tx oc rl ou tl, q)) rfl ?_
      refine RQ.ret rfl rfl ?_
      exact ⟨by rw [show tch tp a = lat tp a from tch_in (by omega)], rfl⟩
theorem x_expect26 {K : PK} {d : Nat} {sc : Nat → Int} {ar : Nat → Int → Int} {tx oc : Nat} {rl : Nat → Option Nat} {ou : Nat → Int64} {tl : List PO} {q : Nat × Nat} {tp : List Int} (ht : TpOK tp) (hs : sc 101 = (tp.length : Int)) (hl : LAt (fun v => v) (ar 2) tp) {a w0 c : Int} (ha : sc 2601 = a) (hr : 0 ≤ a ∧ a ≤ (tp.length : Int)) (hw : sc 2602 = w0) (rw0 : -1 ≤ w0 ∧ w0 ≤ 200) (rc : 1 ≤ c ∧ c ≤ 255) : CallR K (d + 2) 55 [.ref 26, .int (iI c)] (HW sc ar tx oc rl ou tl, q) none (HW (usc (usc sc 2601 (if lk tp a = c then sk tp a + 1 else sk tp a)) 2602 (if lk tp a = c then w0 else if w0 = -1 then sk tp a else w0)) ar tx oc rl ou tl, q) := by
  apply CQ.x
  have ht1 := ht.1
  subst hw
  refine CQ.of (own := 12) (n := 2) (ini := false) (rt := none) (cd := cd55) (by decide +kernel) rfl (by decide +kernel) rfl (Nat.le_of_ble_eq_true rfl) ?_
  refine RQ.seg 1 (pc' := 1) (L' := [some (.ref 26), some (.int (iI c))]) (st' := [.ref 26]) (g1 := (HW sc ar tx oc rl ou tl, q)) rfl ?_
  have hlr := tch_r ht (sk tp a)
  have hlk : 0 ≤ lk tp a ∧ lk tp a ≤ 255 := hlr
  have hsk := sk_r (tp := tp) hr.2
  refine RQ.call rfl rfl (x_look26 ht hs hl ha hr) ?_
  refine RQ.seg 1 (pc' := 5) (L' := [some (.ref 26), some (.int (iI c))]) (st' := [.int (iI c), .int (iI (lk tp a))]) (g1 := (HW (usc sc 2601 (sk tp a)) ar tx oc rl ou tl, q)) rfl ?_
  refine RQ.if2 (a := (lk tp a)) (b := c) rfl rfl rfl rfl (by omega) (by omega) (fun (h1 : lk tp a ≠ c) => ?_) (fun (h1 : ¬ lk tp a ≠ c) => ?_)
  · skip
    refine RQ.seg 3 (pc' := 26) (L' := [some (.ref 26), some (.int (iI c))]) (st' := [.int (iI (sk tp a)), .ref 26]) (g1 := (HW (usc sc 2601 (sk tp a)) ar tx oc rl ou tl, q)) rfl ?_
    refine RQ.call rfl rfl (x_refuse26 (sc := usc sc 2601 (sk tp a)) (ar := ar) (p := sk tp a) (by show -1 ≤ sc 2602 ∧ sc 2602 ≤ 200; omega)) ?_
    refine RQ.ret rfl rfl ?_
    have hc9 : ¬ lk tp a = c := by omega
    exact ⟨rfl, by rw [if_neg hc9, if_neg hc9]; rfl⟩
  · skip
    refine RQ.seg 5 (pc' := 15) (L' := [some (.ref 26), some (.int (iI c))]) (st' := [.int ((iI (sk tp a)) + (iI 1)), .ref 26]) (g1 := (HW (usc sc 2601 (sk tp a)) ar tx oc rl ou tl, q)) rfl ?_
    refine RQ.to (L' := [some (.ref 26), some (.int (iI c))]) (st' := [.int (iI (sk tp a + 1)), .ref 26]) rfl (by simp only [iI_add, iI_sub, iI_mul, iI_neg]) ?_
    refine RQ.seg 2 (pc' := 29) (L' := [some (.ref 26), some (.int (iI c))]) (st' := []) (g1 := (HW (usc sc 2601 (sk tp a + 1)) ar tx oc rl ou tl, q)) rfl ?_
    refine RQ.ret rfl rfl ?_
    have hc9 : lk tp a = c := by omega
    refine ⟨rfl, ?_⟩
    rw [if_pos hc9, if_pos hc9]
    exact HW_e (usc_id (usc sc 2601 (sk tp a + 1)) 2602).symm rfl
theorem x_num26_l {K : PK} {d : Nat} {sc : Nat → Int} {ar : Nat → Int → Int} {tx oc : Nat} {rl : Nat → Option Nat} {ou : Nat → Int64} {tl : List PO} {q : Nat × Nat} {Q : Option Value → PG → Prop} {k : Nat} (hk4 : k ≤ 4) {tp : List Int} (ht : TpOK tp) (hs : sc 101 = (tp.length : Int)) (hl : LAt (fun v => v) (ar 2) tp) : ∀ (m : Nat) (i p v : Int) (hm : i + m = k) (hi : 0 ≤ i) (hp : 0 ≤ p ∧ p ≤ (tp.length : Int)) (hv : 0 ≤ v ∧ v < 10 ^ i.toNat) (hk : ∀ i, RQ K (d + 1) 12 false (some .int) cd56 68 [some (.ref 26), some (.int (iI (k : Int))), some (.int (iI ((nmn tp m p v).1))), some (.int (iI i))] [] (HW (usc sc 2601 ((nmn tp m p v).2)) ar tx oc rl ou tl, q) Q), RQ K (d + 1) 12 false (some .int) cd56 24 [some (.ref 26), some (.int (iI (k : Int))), some (.int (iI v)), some (.int (iI i))] [] (HW (usc sc 2601 p) ar tx oc rl ou tl, q) Q
  | 0, i, p, v, hm, hi, hp, hv, hk => by
    have ht1 := ht.1
    have hcr := tch_r ht p
    refine RQ.seg 2 (pc' := 26) (L' := [some (.ref 26), some (.int (iI (k : Int))), some (.int (iI v)), some (.int (iI i))]) (st' := [.int (iI (k : Int)), .int (iI i)]) (g1 := (HW (usc sc 2601 p) ar tx oc rl ou tl, q)) rfl ?_
    refine RQ.if2 (a := i) (b := (k : Int)) rfl rfl rfl rfl (by omega) (by omega) (fun _ => ?_) (fun (q : ¬ (k : Int) ≤ i) => absurd (show (k : Int) ≤ i from by omega) q)
    exact hk i
  | m + 1, i, p, v, hm, hi, hp, hv, hk => by
    have ht1 := ht.1
    have hcr := tch_r ht p
    refine RQ.seg 2 (pc' := 26) (L' := [some (.ref 26), some (.int (iI (k : Int))), some (.int (iI v)), some (.int (iI i))]) (st' := [.int (iI (k : Int)), .int (iI i)]) (g1 := (HW (usc sc 2601 p) ar tx oc rl ou tl, q)) rfl ?_
    refine RQ.if2 (a := i) (b := (k : Int)) rfl rfl rfl rfl (by omega) (by omega) (fun (q : (k : Int) ≤ i) => absurd q (show ¬ (k : Int) ≤ i from by omega)) (fun _ => ?_)
    refine RQ.seg 1 (pc' := 30) (L' := [some (.ref 26), some (.int (iI (k : Int))), some (.int (iI v)), some (.int (iI i))]) (st' := [.ref 26]) (g1 := (HW (usc sc 2601 p) ar tx oc rl ou tl, q)) rfl ?_
    refine RQ.call rfl rfl (x_here26 (sc := usc sc 2601 p) (ar := ar) (a := p) ht hs hl rfl hp) ?_
    rcases Decidable.em (dig (tch tp p)) with hd | hd
    · skip
      rw [nmn, if_pos hd] at hk
      have hpp := tch_pos (tp := tp) (p := p) (by omega)
      refine RQ.call rfl rfl (x_dig_t (by omega) hd) ?_
      refine RQ.seg 5 (pc' := 44) (L' := [some (.ref 26), some (.int (iI (k : Int))), some (.int (iI v)), some (.int (iI i))]) (st' := [.ref 26, .int ((iI v) * (iI 10))]) (g1 := (HW (usc sc 2601 p) ar tx oc rl ou tl, q)) rfl ?_
      refine RQ.to (L' := [some (.ref 26), some (.int (iI (k : Int))), some (.int (iI v)), some (.int (iI i))]) (st' := [.ref 26, .int (iI (v * 10))]) rfl (by simp only [iI_add, iI_sub, iI_mul, iI_neg]) ?_
      refine RQ.call rfl rfl (x_here26 (sc := usc sc 2601 p) (ar := ar) (a := p) ht hs hl rfl hp) ?_
      refine RQ.seg 9 (pc' := 59) (L' := [some (.ref 26), some (.int (iI (k : Int))), some (.int ((iI (v * 10)) + ((iI (tch tp p)) - (iI 48)))), some (.int (iI i))]) (st' := [.int ((iI p) + (iI 1)), .ref 26]) (g1 := (HW (usc sc 2601 p) ar tx oc rl ou tl, q)) rfl ?_
      refine RQ.to (L' := [some (.ref 26), some (.int (iI (k : Int))), some (.int (iI (v * 10 + (tch tp p - 48)))), some (.int (iI i))]) (st' := [.int (iI (p + 1)), .ref 26]) (by simp only [iI_add, iI_sub, iI_mul, iI_neg]) (by simp only [iI_add, iI_sub, iI_mul, iI_neg]) ?_
      refine RQ.seg 3 (pc' := 24) (L' := [some (.ref 26), some (.int (iI (k : Int))), some (.int (iI (v * 10 + (tch tp p - 48)))), some (.int ((iI i) + (iI 1)))]) (st' := []) (g1 := (HW (usc sc 2601 (p + 1)) ar tx oc rl ou tl, q)) rfl ?_
      refine RQ.to (L' := [some (.ref 26), some (.int (iI (k : Int))), some (.int (iI (v * 10 + (tch tp p - 48)))), some (.int (iI (i + 1)))]) (st' := []) (by simp only [iI_add, iI_sub, iI_mul, iI_neg]) rfl ?_
      refine x_num26_l hk4 ht hs hl m (i + 1) (p + 1) _ (by omega) (by omega) (by omega) ⟨by omega, ?_⟩ hk
      have e1 : (10 : Int) ^ (i + 1).toNat = 10 ^ i.toNat * 10 := by rw [show (i + 1).toNat = i.toNat + 1 by omega, Int.pow_succ]
      rw [e1]; omega
    · skip
      rw [nmn, if_neg hd] at hk
      refine RQ.call rfl rfl (x_dig_f (by omega) hd) ?_
      refine RQ.seg 1 (pc' := 68) (L' := [some (.ref 26), some (.int (iI (k : Int))), some (.int (iI v)), some (.int (iI i))]) (st' := []) (g1 := (HW (usc sc 2601 p) ar tx oc rl ou tl, q)) rfl ?_
      exact hk i
theorem x_number26 {K : PK} {d : Nat} {sc : Nat → Int} {ar : Nat → Int → Int} {tx oc : Nat} {rl : Nat → Option Nat} {ou : Nat → Int64} {tl : List PO} {q : Nat × Nat} {k : Nat} (hk4 : k ≤ 4) {tp : List Int} (ht : TpOK tp) (hs : sc 101 = (tp.length : Int)) (hl : LAt (fun v => v) (ar 2) tp) {a w0 : Int} (ha : sc 2601 = a) (hr : 0 ≤ a ∧ a ≤ (tp.length : Int)) (hw : sc 2602 = w0) (rw0 : -1 ≤ w0 ∧ w0 ≤ 200) : CallR K (d + 2) 56 [.ref 26, .int (iI (k : Int))] (HW sc ar tx oc rl ou tl, q) (some (.int (iI ((nmR tp k a).2.1)))) (HW (usc (usc sc 2601 ((nmR tp k a).2.2)) 2602 (if w0 = -1 then (nmR tp k a).1 else w0)) ar tx oc rl ou tl, q) := by
  apply CQ.x
  have ht1 := ht.1
  subst hw
  refine CQ.of (own := 12) (n := 4) (ini := false) (rt := (some .int)) (cd := cd56) (by decide +kernel) rfl (by decide +kernel) rfl (Nat.le_of_ble_eq_true rfl) ?_
  refine RQ.seg 1 (pc' := 1) (L' := [some (.ref 26), some (.int (iI (k : Int))), none, none]) (st' := [.ref 26]) (g1 := (HW sc ar tx oc rl ou tl, q)) rfl ?_
  have hlr := tch_r ht (sk tp a)
  have hlk : 0 ≤ lk tp a ∧ lk tp a ≤ 255 := hlr
  have hsk := sk_r (tp := tp) hr.2
  have hne := nmn_r (tp := tp) k (sk tp a) 0 (by omega) (by omega)
  refine RQ.call rfl rfl (CallR.up (d := 1) (x_look26 (d := 0) ht hs hl ha hr) (by omega)) ?_
  rcases Decidable.em (dig (lk tp a)) with hd1 | hd1
  · skip
    refine RQ.call rfl rfl (CallR.up (d := 1) (x_dig_t (d := 0) (by omega) hd1) (by omega)) ?_
    refine RQ.seg 5 (pc' := 24) (L' := [some (.ref 26), some (.int (iI (k : Int))), some (.int (iI 0)), some (.int (iI 0))]) (st' := []) (g1 := (HW (usc sc 2601 (sk tp a)) ar tx oc rl ou tl, q)) rfl ?_
    refine x_num26_l (k := k) hk4 ht hs hl k 0 (sk tp a) 0 (by omega) (by omega) (by omega) (by decide) (fun i => ?_)
    refine RQ.seg 1 (pc' := 69) (L' := [some (.ref 26), some (.int (iI (k : Int))), some (.int (iI ((nmn tp k (sk tp a) 0).1))), some (.int (iI i))]) (st' := [.ref 26]) (g1 := (HW (usc sc 2601 ((nmn tp k (sk tp a) 0).2)) ar tx oc rl ou tl, q)) rfl ?_
    have hcr := tch_r ht ((nmn tp k (sk tp a) 0).2)
    refine RQ.call rfl rfl (CallR.up (d := 1) (x_here26 (d := 0) (sc := usc sc 2601 ((nmn tp k (sk tp a) 0).2)) (ar := ar) (a := (nmn tp k (sk tp a) 0).2) ht hs hl rfl (by omega)) (by omega)) ?_
    rcases Decidable.em (dig (tch tp ((nmn tp k (sk tp a) 0).2))) with hd2 | hd2
    · skip
      refine RQ.call rfl rfl (CallR.up (d := 1) (x_dig_t (d := 0) (by omega) hd2) (by omega)) ?_
      refine RQ.seg 4 (pc' := 83) (L' := [some (.ref 26), some (.int (iI (k : Int))), some (.int (iI ((nmn tp k (sk tp a) 0).1))), some (.int (iI i))]) (st' := [.int (iI ((nmn tp k (sk tp a) 0).2)), .ref 26]) (g1 := (HW (usc sc 2601 ((nmn tp k (sk tp a) 0).2)) ar tx oc rl ou tl, q)) rfl ?_
      refine RQ.call rfl rfl (CallR.up (d := 1) (x_refuse26 (d := 0) (sc := usc sc 2601 ((nmn tp k (sk tp a) 0).2)) (ar := ar) (p := (nmn tp k (sk tp a) 0).2) (by show -1 ≤ sc 2602 ∧ sc 2602 ≤ 200; omega)) (by omega)) ?_
      refine RQ.seg 1 (pc' := 87) (L' := [some (.ref 26), some (.int (iI (k : Int))), some (.int (iI ((nmn tp k (sk tp a) 0).1))), some (.int (iI i))]) (st' := [.int (iI ((nmn tp k (sk tp a) 0).1))]) (g1 := (HW (usc (usc sc 2601 ((nmn tp k (sk tp a) 0).2)) 2602 (if sc 2602 = -1 then (nmn tp k (sk tp a) 0).2 else sc 2602)) ar tx oc rl ou tl, q)) rfl ?_
      refine RQ.ret rfl rfl ?_
      have e9 : nmR tp k a = ((nmn tp k (sk tp a) 0).2, (nmn tp k (sk tp a) 0).1, (nmn tp k (sk tp a) 0).2) := by unfold nmR; rw [if_pos (show dig (tch tp (sk tp a)) from hd1), if_pos hd2]
      rw [e9]
      exact ⟨rfl, rfl⟩
    · skip
      refine RQ.call rfl rfl (CallR.up (d := 1) (x_dig_f (d := 0) (by omega) hd2) (by omega)) ?_
      refine RQ.seg 2 (pc' := 87) (L' := [some (.ref 26), some (.int (iI (k : Int))), some (.int (iI ((nmn tp k (sk tp a) 0).1))), some (.int (iI i))]) (st' := [.int (iI ((nmn tp k (sk tp a) 0).1))]) (g1 := (HW (usc sc 2601 ((nmn tp k (sk tp a) 0).2)) ar tx oc rl ou tl, q)) rfl ?_
      refine RQ.ret rfl rfl ?_
      have e9 : nmR tp k a = (-1, (nmn tp k (sk tp a) 0).1, (nmn tp k (sk tp a) 0).2) := by unfold nmR; rw [if_pos (show dig (tch tp (sk tp a)) from hd1), if_neg hd2]
      rw [e9]
      refine ⟨rfl, ?_⟩
      show _ = (HW (usc (usc sc 2601 (nmn tp k (sk tp a) 0).2) 2602 (if sc 2602 = -1 then -1 else sc 2602)) ar tx oc rl ou tl, q)
      rw [show (if sc 2602 = -1 then -1 else sc 2602) = (usc sc 2601 (nmn tp k (sk tp a) 0).2) 2602 by show _ = sc 2602; split <;> omega]
      exact HW_e (usc_id _ 2602).symm rfl
  · skip
    refine RQ.call rfl rfl (CallR.up (d := 1) (x_dig_f (d := 0) (by omega) hd1) (by omega)) ?_
    refine RQ.seg 4 (pc' := 15) (L' := [some (.ref 26), some (.int (iI (k : Int))), none, none]) (st' := [.int (iI (sk tp a)), .ref 26]) (g1 := (HW (usc sc 2601 (sk tp a)) ar tx oc rl ou tl, q)) rfl ?_
    refine RQ.call rfl rfl (CallR.up (d := 1) (x_refuse26 (d := 0) (sc := usc sc 2601 (sk tp a)) (ar := ar) (p := sk tp a) (by show -1 ≤ sc 2602 ∧ sc 2602 ≤ 200; omega)) (by omega)) ?_
    refine RQ.seg 1 (pc' := 19) (L' := [some (.ref 26), some (.int (iI (k : Int))), none, none]) (st' := [.int (iI 0)]) (g1 := (HW (usc (usc sc 2601 (sk tp a)) 2602 (if sc 2602 = -1 then sk tp a else sc 2602)) ar tx oc rl ou tl, q)) rfl ?_
    refine RQ.ret rfl rfl ?_
    have e9 : nmR tp k a = (sk tp a, 0, sk tp a) := by unfold nmR; exact if_neg hd1
    rw [e9]
    exact ⟨rfl, rfl⟩
