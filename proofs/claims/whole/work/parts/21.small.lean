/-! small methods of both sides, by wip/tools -/
theorem m_isIn_t {K : PK} {d : Nat} {sc : Nat → Int} {ar : Nat → Int → Int} {tx oc : Nat} {rl : Nat → Option Nat} {ou : Nat → Int64} {tl : List PO} {q : Nat × Nat} {a b c : Int} (ra : -9223372036854775808 ≤ a ∧ a < 9223372036854775808) (rb : -9223372036854775808 ≤ b ∧ b < 9223372036854775808) (rc : -9223372036854775808 ≤ c ∧ c < 9223372036854775808) (hP : b ≤ a ∧ a ≤ c) : CallR K (d + 1) 150 [.long (lL a), .long (lL b), .long (lL c)] (HW sc ar tx oc rl ou tl, q) (some (.int (iI 1))) (HW sc ar tx oc rl ou tl, q) := by
  apply CQ.x
  refine CQ.of (own := 11) (n := 6) (ini := false) (rt := (some .boolean)) (cd := cd150) (by decide +kernel) rfl (by decide +kernel) rfl (Nat.le_of_ble_eq_true rfl) ?_
  refine RQ.seg 2 (pc' := 2) (L' := [some (.long (lL a)), none, some (.long (lL b)), none, some (.long (lL c)), none]) (st' := [.long (lL b), .long (lL a)]) (g1 := (HW sc ar tx oc rl ou tl, q)) rfl ?_
  refine RQ.lcmp (a := a) (b := b) rfl rfl rfl (by omega) (by omega) (fun (h1 : b < a) => ?_) (fun (h1 : a = b) => ?_) (fun (h1 : a < b) => ?_)
  · skip
    refine RQ.seg 3 (pc' := 9) (L' := [some (.long (lL a)), none, some (.long (lL b)), none, some (.long (lL c)), none]) (st' := [.long (lL c), .long (lL a)]) (g1 := (HW sc ar tx oc rl ou tl, q)) rfl ?_
    refine RQ.lcmp (a := a) (b := c) rfl rfl rfl (by omega) (by omega) (fun (h2 : c < a) => ?_) (fun (h2 : a = c) => ?_) (fun (h2 : a < c) => ?_)
    · skip
      refine RQ.seg 2 (pc' := 18) (L' := [some (.long (lL a)), none, some (.long (lL b)), none, some (.long (lL c)), none]) (st' := [.int (iI 0)]) (g1 := (HW sc ar tx oc rl ou tl, q)) rfl ?_
      refine RQ.ret rfl rfl ?_
      exfalso; omega
    · skip
      refine RQ.seg 3 (pc' := 18) (L' := [some (.long (lL a)), none, some (.long (lL b)), none, some (.long (lL c)), none]) (st' := [.int (iI 1)]) (g1 := (HW sc ar tx oc rl ou tl, q)) rfl ?_
      refine RQ.ret rfl rfl ?_
      exact ⟨rfl, rfl⟩
    · skip
      refine RQ.seg 3 (pc' := 18) (L' := [some (.long (lL a)), none, some (.long (lL b)), none, some (.long (lL c)), none]) (st' := [.int (iI 1)]) (g1 := (HW sc ar tx oc rl ou tl, q)) rfl ?_
      refine RQ.ret rfl rfl ?_
      exact ⟨rfl, rfl⟩
  · skip
    refine RQ.seg 3 (pc' := 9) (L' := [some (.long (lL a)), none, some (.long (lL b)), none, some (.long (lL c)), none]) (st' := [.long (lL c), .long (lL a)]) (g1 := (HW sc ar tx oc rl ou tl, q)) rfl ?_
    refine RQ.lcmp (a := a) (b := c) rfl rfl rfl (by omega) (by omega) (fun (h3 : c < a) => ?_) (fun (h3 : a = c) => ?_) (fun (h3 : a < c) => ?_)
    · skip
      refine RQ.seg 2 (pc' := 18) (L' := [some (.long (lL a)), none, some (.long (lL b)), none, some (.long (lL c)), none]) (st' := [.int (iI 0)]) (g1 := (HW sc ar tx oc rl ou tl, q)) rfl ?_
      refine RQ.ret rfl rfl ?_
      exfalso; omega
    · skip
      refine RQ.seg 3 (pc' := 18) (L' := [some (.long (lL a)), none, some (.long (lL b)), none, some (.long (lL c)), none]) (st' := [.int (iI 1)]) (g1 := (HW sc ar tx oc rl ou tl, q)) rfl ?_
      refine RQ.ret rfl rfl ?_
      exact ⟨rfl, rfl⟩
    · skip
      refine RQ.seg 3 (pc' := 18) (L' := [some (.long (lL a)), none, some (.long (lL b)), none, some (.long (lL c)), none]) (st' := [.int (iI 1)]) (g1 := (HW sc ar tx oc rl ou tl, q)) rfl ?_
      refine RQ.ret rfl rfl ?_
      exact ⟨rfl, rfl⟩
  · skip
    refine RQ.seg 2 (pc' := 18) (L' := [some (.long (lL a)), none, some (.long (lL b)), none, some (.long (lL c)), none]) (st' := [.int (iI 0)]) (g1 := (HW sc ar tx oc rl ou tl, q)) rfl ?_
    refine RQ.ret rfl rfl ?_
    exfalso; omega
theorem m_isIn_f {K : PK} {d : Nat} {sc : Nat → Int} {ar : Nat → Int → Int} {tx oc : Nat} {rl : Nat → Option Nat} {ou : Nat → Int64} {tl : List PO} {q : Nat × Nat} {a b c : Int} (ra : -9223372036854775808 ≤ a ∧ a < 9223372036854775808) (rb : -9223372036854775808 ≤ b ∧ b < 9223372036854775808) (rc : -9223372036854775808 ≤ c ∧ c < 9223372036854775808) (hP : ¬ (b ≤ a ∧ a ≤ c)) : CallR K (d + 1) 150 [.long (lL a), .long (lL b), .long (lL c)] (HW sc ar tx oc rl ou tl, q) (some (.int (iI 0))) (HW sc ar tx oc rl ou tl, q) := by
  apply CQ.x
  refine CQ.of (own := 11) (n := 6) (ini := false) (rt := (some .boolean)) (cd := cd150) (by decide +kernel) rfl (by decide +kernel) rfl (Nat.le_of_ble_eq_true rfl) ?_
  refine RQ.seg 2 (pc' := 2) (L' := [some (.long (lL a)), none, some (.long (lL b)), none, some (.long (lL c)), none]) (st' := [.long (lL b), .long (lL a)]) (g1 := (HW sc ar tx oc rl ou tl, q)) rfl ?_
  refine RQ.lcmp (a := a) (b := b) rfl rfl rfl (by omega) (by omega) (fun (h1 : b < a) => ?_) (fun (h1 : a = b) => ?_) (fun (h1 : a < b) => ?_)
  · skip
    refine RQ.seg 3 (pc' := 9) (L' := [some (.long (lL a)), none, some (.long (lL b)), none, some (.long (lL c)), none]) (st' := [.long (lL c), .long (lL a)]) (g1 := (HW sc ar tx oc rl ou tl, q)) rfl ?_
    refine RQ.lcmp (a := a) (b := c) rfl rfl rfl (by omega) (by omega) (fun (h2 : c < a) => ?_) (fun (h2 : a = c) => ?_) (fun (h2 : a < c) => ?_)
    · skip
      refine RQ.seg 2 (pc' := 18) (L' := [some (.long (lL a)), none, some (.long (lL b)), none, some (.long (lL c)), none]) (st' := [.int (iI 0)]) (g1 := (HW sc ar tx oc rl ou tl, q)) rfl ?_
      refine RQ.ret rfl rfl ?_
      exact ⟨rfl, rfl⟩
    · skip
      refine RQ.seg 3 (pc' := 18) (L' := [some (.long (lL a)), none, some (.long (lL b)), none, some (.long (lL c)), none]) (st' := [.int (iI 1)]) (g1 := (HW sc ar tx oc rl ou tl, q)) rfl ?_
      refine RQ.ret rfl rfl ?_
      exfalso; omega
    · skip
      refine RQ.seg 3 (pc' := 18) (L' := [some (.long (lL a)), none, some (.long (lL b)), none, some (.long (lL c)), none]) (st' := [.int (iI 1)]) (g1 := (HW sc ar tx oc rl ou tl, q)) rfl ?_
      refine RQ.ret rfl rfl ?_
      exfalso; omega
  · skip
    refine RQ.seg 3 (pc' := 9) (L' := [some (.long (lL a)), none, some (.long (lL b)), none, some (.long (lL c)), none]) (st' := [.long (lL c), .long (lL a)]) (g1 := (HW sc ar tx oc rl ou tl, q)) rfl ?_
    refine RQ.lcmp (a := a) (b := c) rfl rfl rfl (by omega) (by omega) (fun (h3 : c < a) => ?_) (fun (h3 : a = c) => ?_) (fun (h3 : a < c) => ?_)
    · skip
      refine RQ.seg 2 (pc' := 18) (L' := [some (.long (lL a)), none, some (.long (lL b)), none, some (.long (lL c)), none]) (st' := [.int (iI 0)]) (g1 := (HW sc ar tx oc rl ou tl, q)) rfl ?_
      refine RQ.ret rfl rfl ?_
      exact ⟨rfl, rfl⟩
    · skip
      refine RQ.seg 3 (pc' := 18) (L' := [some (.long (lL a)), none, some (.long (lL b)), none, some (.long (lL c)), none]) (st' := [.int (iI 1)]) (g1 := (HW sc ar tx oc rl ou tl, q)) rfl ?_
      refine RQ.ret rfl rfl ?_
      exfalso; omega
    · skip
      refine RQ.seg 3 (pc' := 18) (L' := [some (.long (lL a)), none, some (.long (lL b)), none, some (.long (lL c)), none]) (st' := [.int (iI 1)]) (g1 := (HW sc ar tx oc rl ou tl, q)) rfl ?_
      refine RQ.ret rfl rfl ?_
      exfalso; omega
  · skip
    refine RQ.seg 2 (pc' := 18) (L' := [some (.long (lL a)), none, some (.long (lL b)), none, some (.long (lL c)), none]) (st' := [.int (iI 0)]) (g1 := (HW sc ar tx oc rl ou tl, q)) rfl ?_
    refine RQ.ret rfl rfl ?_
    exact ⟨rfl, rfl⟩
theorem m_isBr_t {K : PK} {d : Nat} {sc : Nat → Int} {ar : Nat → Int → Int} {tx oc : Nat} {rl : Nat → Option Nat} {ou : Nat → Int64} {tl : List PO} {q : Nat × Nat} {b : Int} (rb : -2147483648 ≤ b ∧ b < 2147483648) (hn : 0 ≤ sc 8025 ∧ sc 8025 ≤ 3) (hP : 0 ≤ b ∧ b < sc 8025) : CallR K (d + 1) 184 [.ref 80, .int (iI b)] (HW sc ar tx oc rl ou tl, q) (some (.int (iI 1))) (HW sc ar tx oc rl ou tl, q) := by
  apply CQ.x
  refine CQ.of (own := 11) (n := 2) (ini := false) (rt := (some .boolean)) (cd := cd184) (by decide +kernel) rfl (by decide +kernel) rfl (Nat.le_of_ble_eq_true rfl) ?_
  refine RQ.seg 1 (pc' := 1) (L' := [some (.ref 80), some (.int (iI b))]) (st' := [.int (iI b)]) (g1 := (HW sc ar tx oc rl ou tl, q)) rfl ?_
  refine RQ.if1 (a := b) rfl rfl rfl (by omega) (fun (h1 : b < 0) => ?_) (fun (h1 : ¬ b < 0) => ?_)
  · skip
    refine RQ.seg 1 (pc' := 17) (L' := [some (.ref 80), some (.int (iI b))]) (st' := [.int (iI 0)]) (g1 := (HW sc ar tx oc rl ou tl, q)) rfl ?_
    refine RQ.ret rfl rfl ?_
    exfalso; omega
  · skip
    refine RQ.seg 3 (pc' := 9) (L' := [some (.ref 80), some (.int (iI b))]) (st' := [.int (iI (sc 8025)), .int (iI b)]) (g1 := (HW sc ar tx oc rl ou tl, q)) rfl ?_
    refine RQ.if2 (a := b) (b := (sc 8025)) rfl rfl rfl rfl (by omega) (by omega) (fun (h2 : sc 8025 ≤ b) => ?_) (fun (h2 : ¬ sc 8025 ≤ b) => ?_)
    · skip
      refine RQ.seg 1 (pc' := 17) (L' := [some (.ref 80), some (.int (iI b))]) (st' := [.int (iI 0)]) (g1 := (HW sc ar tx oc rl ou tl, q)) rfl ?_
      refine RQ.ret rfl rfl ?_
      exfalso; omega
    · skip
      refine RQ.seg 2 (pc' := 17) (L' := [some (.ref 80), some (.int (iI b))]) (st' := [.int (iI 1)]) (g1 := (HW sc ar tx oc rl ou tl, q)) rfl ?_
      refine RQ.ret rfl rfl ?_
      exact ⟨rfl, rfl⟩
theorem m_isBr_f {K : PK} {d : Nat} {sc : Nat → Int} {ar : Nat → Int → Int} {tx oc : Nat} {rl : Nat → Option Nat} {ou : Nat → Int64} {tl : List PO} {q : Nat × Nat} {b : Int} (rb : -2147483648 ≤ b ∧ b < 2147483648) (hn : 0 ≤ sc 8025 ∧ sc 8025 ≤ 3) (hP : ¬ (0 ≤ b ∧ b < sc 8025)) : CallR K (d + 1) 184 [.ref 80, .int (iI b)] (HW sc ar tx oc rl ou tl, q) (some (.int (iI 0))) (HW sc ar tx oc rl ou tl, q) := by
  apply CQ.x
  refine CQ.of (own := 11) (n := 2) (ini := false) (rt := (some .boolean)) (cd := cd184) (by decide +kernel) rfl (by decide +kernel) rfl (Nat.le_of_ble_eq_true rfl) ?_
  refine RQ.seg 1 (pc' := 1) (L' := [some (.ref 80), some (.int (iI b))]) (st' := [.int (iI b)]) (g1 := (HW sc ar tx oc rl ou tl, q)) rfl ?_
  refine RQ.if1 (a := b) rfl rfl rfl (by omega) (fun (h1 : b < 0) => ?_) (fun (h1 : ¬ b < 0) => ?_)
  · skip
    refine RQ.seg 1 (pc' := 17) (L' := [some (.ref 80), some (.int (iI b))]) (st' := [.int (iI 0)]) (g1 := (HW sc ar tx oc rl ou tl, q)) rfl ?_
    refine RQ.ret rfl rfl ?_
    exact ⟨rfl, rfl⟩
  · skip
    refine RQ.seg 3 (pc' := 9) (L' := [some (.ref 80), some (.int (iI b))]) (st' := [.int (iI (sc 8025)), .int (iI b)]) (g1 := (HW sc ar tx oc rl ou tl, q)) rfl ?_
    refine RQ.if2 (a := b) (b := (sc 8025)) rfl rfl rfl rfl (by omega) (by omega) (fun (h2 : sc 8025 ≤ b) => ?_) (fun (h2 : ¬ sc 8025 ≤ b) => ?_)
    · skip
      refine RQ.seg 1 (pc' := 17) (L' := [some (.ref 80), some (.int (iI b))]) (st' := [.int (iI 0)]) (g1 := (HW sc ar tx oc rl ou tl, q)) rfl ?_
      refine RQ.ret rfl rfl ?_
      exact ⟨rfl, rfl⟩
    · skip
      refine RQ.seg 2 (pc' := 17) (L' := [some (.ref 80), some (.int (iI b))]) (st' := [.int (iI 1)]) (g1 := (HW sc ar tx oc rl ou tl, q)) rfl ?_
      refine RQ.ret rfl rfl ?_
      exfalso; omega
theorem x_isBr_t {K : PK} {d : Nat} {sc : Nat → Int} {ar : Nat → Int → Int} {tx oc : Nat} {rl : Nat → Option Nat} {ou : Nat → Int64} {tl : List PO} {q : Nat × Nat} {b : Int} (rb : -2147483648 ≤ b ∧ b < 2147483648) (hn : 0 ≤ sc 304 ∧ sc 304 ≤ 3) (hP : 0 ≤ b ∧ b < sc 304) : CallR K (d + 1) 139 [.ref 0, .int (iI b)] (HW sc ar tx oc rl ou tl, q) (some (.int (iI 1))) (HW sc ar tx oc rl ou tl, q) := by
  apply CQ.x
  refine CQ.of (own := 10) (n := 2) (ini := false) (rt := (some .boolean)) (cd := cd139) (by decide +kernel) rfl (by decide +kernel) rfl (Nat.le_of_ble_eq_true rfl) ?_
  refine RQ.seg 1 (pc' := 1) (L' := [some (.ref 0), some (.int (iI b))]) (st' := [.int (iI b)]) (g1 := (HW sc ar tx oc rl ou tl, q)) rfl ?_
  refine RQ.if1 (a := b) rfl rfl rfl (by omega) (fun (h1 : b < 0) => ?_) (fun (h1 : ¬ b < 0) => ?_)
  · skip
    refine RQ.seg 1 (pc' := 20) (L' := [some (.ref 0), some (.int (iI b))]) (st' := [.int (iI 0)]) (g1 := (HW sc ar tx oc rl ou tl, q)) rfl ?_
    refine RQ.ret rfl rfl ?_
    exfalso; omega
  · skip
    refine RQ.seg 4 (pc' := 12) (L' := [some (.ref 0), some (.int (iI b))]) (st' := [.int (iI (sc 304)), .int (iI b)]) (g1 := (HW sc ar tx oc rl ou tl, q)) rfl ?_
    refine RQ.if2 (a := b) (b := (sc 304)) rfl rfl rfl rfl (by omega) (by omega) (fun (h2 : sc 304 ≤ b) => ?_) (fun (h2 : ¬ sc 304 ≤ b) => ?_)
    · skip
      refine RQ.seg 1 (pc' := 20) (L' := [some (.ref 0), some (.int (iI b))]) (st' := [.int (iI 0)]) (g1 := (HW sc ar tx oc rl ou tl, q)) rfl ?_
      refine RQ.ret rfl rfl ?_
      exfalso; omega
    · skip
      refine RQ.seg 2 (pc' := 20) (L' := [some (.ref 0), some (.int (iI b))]) (st' := [.int (iI 1)]) (g1 := (HW sc ar tx oc rl ou tl, q)) rfl ?_
      refine RQ.ret rfl rfl ?_
      exact ⟨rfl, rfl⟩
theorem x_isBr_f {K : PK} {d : Nat} {sc : Nat → Int} {ar : Nat → Int → Int} {tx oc : Nat} {rl : Nat → Option Nat} {ou : Nat → Int64} {tl : List PO} {q : Nat × Nat} {b : Int} (rb : -2147483648 ≤ b ∧ b < 2147483648) (hn : 0 ≤ sc 304 ∧ sc 304 ≤ 3) (hP : ¬ (0 ≤ b ∧ b < sc 304)) : CallR K (d + 1) 139 [.ref 0, .int (iI b)] (HW sc ar tx oc rl ou tl, q) (some (.int (iI 0))) (HW sc ar tx oc rl ou tl, q) := by
  apply CQ.x
  refine CQ.of (own := 10) (n := 2) (ini := false) (rt := (some .boolean)) (cd := cd139) (by decide +kernel) rfl (by decide +kernel) rfl (Nat.le_of_ble_eq_true rfl) ?_
  refine RQ.seg 1 (pc' := 1) (L' := [some (.ref 0), some (.int (iI b))]) (st' := [.int (iI b)]) (g1 := (HW sc ar tx oc rl ou tl, q)) rfl ?_
  refine RQ.if1 (a := b) rfl rfl rfl (by omega) (fun (h1 : b < 0) => ?_) (fun (h1 : ¬ b < 0) => ?_)
  · skip
    refine RQ.seg 1 (pc' := 20) (L' := [some (.ref 0), some (.int (iI b))]) (st' := [.int (iI 0)]) (g1 := (HW sc ar tx oc rl ou tl, q)) rfl ?_
    refine RQ.ret rfl rfl ?_
    exact ⟨rfl, rfl⟩
  · skip
    refine RQ.seg 4 (pc' := 12) (L' := [some (.ref 0), some (.int (iI b))]) (st' := [.int (iI (sc 304)), .int (iI b)]) (g1 := (HW sc ar tx oc rl ou tl, q)) rfl ?_
    refine RQ.if2 (a := b) (b := (sc 304)) rfl rfl rfl rfl (by omega) (by omega) (fun (h2 : sc 304 ≤ b) => ?_) (fun (h2 : ¬ sc 304 ≤ b) => ?_)
    · skip
      refine RQ.seg 1 (pc' := 20) (L' := [some (.ref 0), some (.int (iI b))]) (st' := [.int (iI 0)]) (g1 := (HW sc ar tx oc rl ou tl, q)) rfl ?_
      refine RQ.ret rfl rfl ?_
      exact ⟨rfl, rfl⟩
    · skip
      refine RQ.seg 2 (pc' := 20) (L' := [some (.ref 0), some (.int (iI b))]) (st' := [.int (iI 1)]) (g1 := (HW sc ar tx oc rl ou tl, q)) rfl ?_
      refine RQ.ret rfl rfl ?_
      exfalso; omega
theorem x_isWi_t {K : PK} {d : Nat} {sc : Nat → Int} {ar : Nat → Int → Int} {tx oc : Nat} {rl : Nat → Option Nat} {ou : Nat → Int64} {tl : List PO} {q : Nat × Nat} {b : Int} (rb : -2147483648 ≤ b ∧ b < 2147483648) (hn : 0 ≤ sc 303 ∧ sc 303 ≤ 4) (hP : 0 ≤ b ∧ b < sc 303) : CallR K (d + 1) 140 [.ref 0, .int (iI b)] (HW sc ar tx oc rl ou tl, q) (some (.int (iI 1))) (HW sc ar tx oc rl ou tl, q) := by
  apply CQ.x
  refine CQ.of (own := 10) (n := 2) (ini := false) (rt := (some .boolean)) (cd := cd140) (by decide +kernel) rfl (by decide +kernel) rfl (Nat.le_of_ble_eq_true rfl) ?_
  refine RQ.seg 1 (pc' := 1) (L' := [some (.ref 0), some (.int (iI b))]) (st' := [.int (iI b)]) (g1 := (HW sc ar tx oc rl ou tl, q)) rfl ?_
  refine RQ.if1 (a := b) rfl rfl rfl (by omega) (fun (h1 : b < 0) => ?_) (fun (h1 : ¬ b < 0) => ?_)
  · skip
    refine RQ.seg 1 (pc' := 20) (L' := [some (.ref 0), some (.int (iI b))]) (st' := [.int (iI 0)]) (g1 := (HW sc ar tx oc rl ou tl, q)) rfl ?_
    refine RQ.ret rfl rfl ?_
    exfalso; omega
  · skip
    refine RQ.seg 4 (pc' := 12) (L' := [some (.ref 0), some (.int (iI b))]) (st' := [.int (iI (sc 303)), .int (iI b)]) (g1 := (HW sc ar tx oc rl ou tl, q)) rfl ?_
    refine RQ.if2 (a := b) (b := (sc 303)) rfl rfl rfl rfl (by omega) (by omega) (fun (h2 : sc 303 ≤ b) => ?_) (fun (h2 : ¬ sc 303 ≤ b) => ?_)
    · skip
      refine RQ.seg 1 (pc' := 20) (L' := [some (.ref 0), some (.int (iI b))]) (st' := [.int (iI 0)]) (g1 := (HW sc ar tx oc rl ou tl, q)) rfl ?_
      refine RQ.ret rfl rfl ?_
      exfalso; omega
    · skip
      refine RQ.seg 2 (pc' := 20) (L' := [some (.ref 0), some (.int (iI b))]) (st' := [.int (iI 1)]) (g1 := (HW sc ar tx oc rl ou tl, q)) rfl ?_
      refine RQ.ret rfl rfl ?_
      exact ⟨rfl, rfl⟩
theorem x_isWi_f {K : PK} {d : Nat} {sc : Nat → Int} {ar : Nat → Int → Int} {tx oc : Nat} {rl : Nat → Option Nat} {ou : Nat → Int64} {tl : List PO} {q : Nat × Nat} {b : Int} (rb : -2147483648 ≤ b ∧ b < 2147483648) (hn : 0 ≤ sc 303 ∧ sc 303 ≤ 4) (hP : ¬ (0 ≤ b ∧ b < sc 303)) : CallR K (d + 1) 140 [.ref 0, .int (iI b)] (HW sc ar tx oc rl ou tl, q) (some (.int (iI 0))) (HW sc ar tx oc rl ou tl, q) := by
  apply CQ.x
  refine CQ.of (own := 10) (n := 2) (ini := false) (rt := (some .boolean)) (cd := cd140) (by decide +kernel) rfl (by decide +kernel) rfl (Nat.le_of_ble_eq_true rfl) ?_
  refine RQ.seg 1 (pc' := 1) (L' := [some (.ref 0), some (.int (iI b))]) (st' := [.int (iI b)]) (g1 := (HW sc ar tx oc rl ou tl, q)) rfl ?_
  refine RQ.if1 (a := b) rfl rfl rfl (by omega) (fun (h1 : b < 0) => ?_) (fun (h1 : ¬ b < 0) => ?_)
  · skip
    refine RQ.seg 1 (pc' := 20) (L' := [some (.ref 0), some (.int (iI b))]) (st' := [.int (iI 0)]) (g1 := (HW sc ar tx oc rl ou tl, q)) rfl ?_
    refine RQ.ret rfl rfl ?_
    exact ⟨rfl, rfl⟩
  · skip
    refine RQ.seg 4 (pc' := 12) (L' := [some (.ref 0), some (.int (iI b))]) (st' := [.int (iI (sc 303)), .int (iI b)]) (g1 := (HW sc ar tx oc rl ou tl, q)) rfl ?_
    refine RQ.if2 (a := b) (b := (sc 303)) rfl rfl rfl rfl (by omega) (by omega) (fun (h2 : sc 303 ≤ b) => ?_) (fun (h2 : ¬ sc 303 ≤ b) => ?_)
    · skip
      refine RQ.seg 1 (pc' := 20) (L' := [some (.ref 0), some (.int (iI b))]) (st' := [.int (iI 0)]) (g1 := (HW sc ar tx oc rl ou tl, q)) rfl ?_
      refine RQ.ret rfl rfl ?_
      exact ⟨rfl, rfl⟩
    · skip
      refine RQ.seg 2 (pc' := 20) (L' := [some (.ref 0), some (.int (iI b))]) (st' := [.int (iI 1)]) (g1 := (HW sc ar tx oc rl ou tl, q)) rfl ?_
      refine RQ.ret rfl rfl ?_
      exfalso; omega
theorem x_stands_t {K : PK} {d : Nat} {sc : Nat → Int} {ar : Nat → Int → Int} {tx oc : Nat} {rl : Nat → Option Nat} {ou : Nat → Int64} {tl : List PO} {q : Nat × Nat} (hn : 0 ≤ sc 304 ∧ sc 304 ≤ 3) (hP : 0 < sc 304) : CallR K (d + 1) 17 [.ref 3] (HW sc ar tx oc rl ou tl, q) (some (.int (iI 1))) (HW sc ar tx oc rl ou tl, q) := by
  apply CQ.x
  refine CQ.of (own := 2) (n := 1) (ini := false) (rt := (some .boolean)) (cd := cd17) (by decide +kernel) rfl (by decide +kernel) rfl (Nat.le_of_ble_eq_true rfl) ?_
  refine RQ.seg 2 (pc' := 4) (L' := [some (.ref 3)]) (st' := [.int (iI (sc 304))]) (g1 := (HW sc ar tx oc rl ou tl, q)) rfl ?_
  refine RQ.if1 (a := (sc 304)) rfl rfl rfl (by omega) (fun (h1 : sc 304 ≤ 0) => ?_) (fun (h1 : ¬ sc 304 ≤ 0) => ?_)
  · skip
    refine RQ.seg 1 (pc' := 12) (L' := [some (.ref 3)]) (st' := [.int (iI 0)]) (g1 := (HW sc ar tx oc rl ou tl, q)) rfl ?_
    refine RQ.ret rfl rfl ?_
    exfalso; omega
  · skip
    refine RQ.seg 2 (pc' := 12) (L' := [some (.ref 3)]) (st' := [.int (iI 1)]) (g1 := (HW sc ar tx oc rl ou tl, q)) rfl ?_
    refine RQ.ret rfl rfl ?_
    exact ⟨rfl, rfl⟩
theorem x_stands_f {K : PK} {d : Nat} {sc : Nat → Int} {ar : Nat → Int → Int} {tx oc : Nat} {rl : Nat → Option Nat} {ou : Nat → Int64} {tl : List PO} {q : Nat × Nat} (hn : 0 ≤ sc 304 ∧ sc 304 ≤ 3) (hP : ¬ (0 < sc 304)) : CallR K (d + 1) 17 [.ref 3] (HW sc ar tx oc rl ou tl, q) (some (.int (iI 0))) (HW sc ar tx oc rl ou tl, q) := by
  apply CQ.x
  refine CQ.of (own := 2) (n := 1) (ini := false) (rt := (some .boolean)) (cd := cd17) (by decide +kernel) rfl (by decide +kernel) rfl (Nat.le_of_ble_eq_true rfl) ?_
  refine RQ.seg 2 (pc' := 4) (L' := [some (.ref 3)]) (st' := [.int (iI (sc 304))]) (g1 := (HW sc ar tx oc rl ou tl, q)) rfl ?_
  refine RQ.if1 (a := (sc 304)) rfl rfl rfl (by omega) (fun (h1 : sc 304 ≤ 0) => ?_) (fun (h1 : ¬ sc 304 ≤ 0) => ?_)
  · skip
    refine RQ.seg 1 (pc' := 12) (L' := [some (.ref 3)]) (st' := [.int (iI 0)]) (g1 := (HW sc ar tx oc rl ou tl, q)) rfl ?_
    refine RQ.ret rfl rfl ?_
    exact ⟨rfl, rfl⟩
  · skip
    refine RQ.seg 2 (pc' := 12) (L' := [some (.ref 3)]) (st' := [.int (iI 1)]) (g1 := (HW sc ar tx oc rl ou tl, q)) rfl ?_
    refine RQ.ret rfl rfl ?_
    exfalso; omega
def sWindow (n : Int) (f : Int → Int → Int) (w j : Int) : Int := if 0 ≤ w ∧ w < n ∧ 0 ≤ j ∧ j ≤ 3 then f w j else -1
theorem m_window {K : PK} {d : Nat} {sc : Nat → Int} {ar : Nat → Int → Int} {tx oc : Nat} {rl : Nat → Option Nat} {ou : Nat → Int64} {tl : List PO} {q : Nat × Nat} {w j : Int} (rw : -2147483648 ≤ w ∧ w < 2147483648) (rj : -2147483648 ≤ j ∧ j < 2147483648) (hnw : 0 ≤ sc 8024 ∧ sc 8024 ≤ 4) : CallR K (d + 2) 186 [.ref 80, .int (iI w), .int (iI j)] (HW sc ar tx oc rl ou tl, q) (some (.int (iI (sWindow (sc 8024) (fun w j => ar 85 (4 * w + j)) w j)))) (HW (usc sc 8000 0) ar tx oc rl ou tl, q) := by
  apply CQ.x
  refine CQ.of (own := 11) (n := 3) (ini := false) (rt := (some .int)) (cd := cd186) (by decide +kernel) rfl (by decide +kernel) rfl (Nat.le_of_ble_eq_true rfl) ?_
  refine RQ.seg 4 (pc' := 6) (L' := [some (.ref 80), some (.int (iI w)), some (.int (iI j))]) (st' := [.int (iI w)]) (g1 := (HW (usc sc 8000 0) ar tx oc rl ou tl, q)) rfl ?_
  refine RQ.seg 1 (pc' := 7) (L' := [some (.ref 80), some (.int (iI w)), some (.int (iI j))]) (st' := [.long ((iI w).toInt64)]) (g1 := (HW (usc sc 8000 0) ar tx oc rl ou tl, q)) rfl ?_
  refine RQ.to (L' := [some (.ref 80), some (.int (iI w)), some (.int (iI j))]) (st' := [.long (lL w)]) rfl (by rw [iI_64 (by omega)]) ?_
  refine RQ.seg 5 (pc' := 14) (L' := [some (.ref 80), some (.int (iI w)), some (.int (iI j))]) (st' := [.int ((iI (sc 8024)) - (iI 1)), .long (lL 0), .long (lL w)]) (g1 := (HW (usc sc 8000 0) ar tx oc rl ou tl, q)) rfl ?_
  refine RQ.to (L' := [some (.ref 80), some (.int (iI w)), some (.int (iI j))]) (st' := [.int (iI (sc 8024 - 1)), .long (lL 0), .long (lL w)]) rfl (by simp only [iI_add, iI_sub, iI_mul, iI_neg]) ?_
  refine RQ.seg 1 (pc' := 15) (L' := [some (.ref 80), some (.int (iI w)), some (.int (iI j))]) (st' := [.long ((iI (sc 8024 - 1)).toInt64), .long (lL 0), .long (lL w)]) (g1 := (HW (usc sc 8000 0) ar tx oc rl ou tl, q)) rfl ?_
  refine RQ.to (L' := [some (.ref 80), some (.int (iI w)), some (.int (iI j))]) (st' := [.long (lL (sc 8024 - 1)), .long (lL 0), .long (lL w)]) rfl (by rw [iI_64 (by omega)]) ?_
  rcases Decidable.em (0 ≤ w ∧ w ≤ sc 8024 - 1) with h1 | h1
  · skip
    refine RQ.call rfl rfl (m_isIn_t (by omega) (by omega) (by omega) h1) ?_
    refine RQ.seg 2 (pc' := 22) (L' := [some (.ref 80), some (.int (iI w)), some (.int (iI j))]) (st' := [.int (iI j)]) (g1 := (HW (usc sc 8000 0) ar tx oc rl ou tl, q)) rfl ?_
    refine RQ.seg 1 (pc' := 23) (L' := [some (.ref 80), some (.int (iI w)), some (.int (iI j))]) (st' := [.long ((iI j).toInt64)]) (g1 := (HW (usc sc 8000 0) ar tx oc rl ou tl, q)) rfl ?_
    refine RQ.to (L' := [some (.ref 80), some (.int (iI w)), some (.int (iI j))]) (st' := [.long (lL j)]) rfl (by rw [iI_64 (by omega)]) ?_
    refine RQ.seg 2 (pc' := 27) (L' := [some (.ref 80), some (.int (iI w)), some (.int (iI j))]) (st' := [.long (lL 3), .long (lL 0), .long (lL j)]) (g1 := (HW (usc sc 8000 0) ar tx oc rl ou tl, q)) rfl ?_
    rcases Decidable.em (0 ≤ j ∧ j ≤ 3) with h2 | h2
    · skip
      refine RQ.call rfl rfl (m_isIn_t (by omega) (by omega) (by omega) h2) ?_
      refine RQ.seg 8 (pc' := 42) (L' := [some (.ref 80), some (.int (iI w)), some (.int (iI j))]) (st' := [.int (((iI 4) * (iI w)) + (iI j)), .ref 85]) (g1 := (HW (usc sc 8000 0) ar tx oc rl ou tl, q)) rfl ?_
      refine RQ.iald (z := (4 * w + j)) rfl (by simp only [iI_add, iI_sub, iI_mul, iI_neg]) rfl (by omega) (by decide) ?_
      refine RQ.seg 1 (pc' := 47) (L' := [some (.ref 80), some (.int (iI w)), some (.int (iI j))]) (st' := [.int (iI ((ar 85) (4 * w + j)))]) (g1 := (HW (usc sc 8000 0) ar tx oc rl ou tl, q)) rfl ?_
      refine RQ.ret rfl rfl ?_
      refine ⟨?_, ?_⟩ <;> ((try unfold sWindow); (repeat (first | rw [if_pos (by omega)] | rw [if_neg (by omega)])); (try rfl))
    · skip
      refine RQ.call rfl rfl (m_isIn_f (by omega) (by omega) (by omega) h2) ?_
      refine RQ.seg 2 (pc' := 47) (L' := [some (.ref 80), some (.int (iI w)), some (.int (iI j))]) (st' := [.int (iI (-1))]) (g1 := (HW (usc sc 8000 0) ar tx oc rl ou tl, q)) rfl ?_
      refine RQ.ret rfl rfl ?_
      refine ⟨?_, ?_⟩ <;> ((try unfold sWindow); (repeat (first | rw [if_pos (by omega)] | rw [if_neg (by omega)])); (try rfl))
  · skip
    refine RQ.call rfl rfl (m_isIn_f (by omega) (by omega) (by omega) h1) ?_
    refine RQ.seg 2 (pc' := 47) (L' := [some (.ref 80), some (.int (iI w)), some (.int (iI j))]) (st' := [.int (iI (-1))]) (g1 := (HW (usc sc 8000 0) ar tx oc rl ou tl, q)) rfl ?_
    refine RQ.ret rfl rfl ?_
    refine ⟨?_, ?_⟩ <;> ((try unfold sWindow); (repeat (first | rw [if_pos (by omega)] | rw [if_neg (by omega)])); (try rfl))
theorem x_window {K : PK} {d : Nat} {sc : Nat → Int} {ar : Nat → Int → Int} {tx oc : Nat} {rl : Nat → Option Nat} {ou : Nat → Int64} {tl : List PO} {q : Nat × Nat} {w j : Int} (rw : -2147483648 ≤ w ∧ w < 2147483648) (rj : -2147483648 ≤ j ∧ j < 2147483648) (hnw : 0 ≤ sc 303 ∧ sc 303 ≤ 4) : CallR K (d + 2) 110 [.ref 0, .int (iI w), .int (iI j)] (HW sc ar tx oc rl ou tl, q) (some (.int (iI (sWindow (sc 303) (fun w j => ar (5 + w.toNat) j) w j)))) (HW sc ar tx oc rl ou tl, q) := by
  apply CQ.x
  refine CQ.of (own := 10) (n := 3) (ini := false) (rt := (some .int)) (cd := cd110) (by decide +kernel) rfl (by decide +kernel) rfl (Nat.le_of_ble_eq_true rfl) ?_
  refine RQ.seg 2 (pc' := 2) (L' := [some (.ref 0), some (.int (iI w)), some (.int (iI j))]) (st' := [.int (iI w), .ref 0]) (g1 := (HW sc ar tx oc rl ou tl, q)) rfl ?_
  rcases Decidable.em (0 ≤ w ∧ w < sc 303) with h1 | h1
  · skip
    refine RQ.call rfl rfl (x_isWi_t (by omega) hnw h1) ?_
    refine RQ.seg 2 (pc' := 9) (L' := [some (.ref 0), some (.int (iI w)), some (.int (iI j))]) (st' := [.int (iI j)]) (g1 := (HW sc ar tx oc rl ou tl, q)) rfl ?_
    refine RQ.if1 (a := j) rfl rfl rfl (by omega) (fun (h2 : j < 0) => ?_) (fun (h2 : ¬ j < 0) => ?_)
    · skip
      refine RQ.seg 1 (pc' := 18) (L' := [some (.ref 0), some (.int (iI w)), some (.int (iI j))]) (st' := [.int (iI (-1))]) (g1 := (HW sc ar tx oc rl ou tl, q)) rfl ?_
      refine RQ.ret rfl rfl ?_
      refine ⟨?_, ?_⟩ <;> ((try unfold sWindow); (repeat (first | rw [if_pos (by omega)] | rw [if_neg (by omega)])); (try rfl))
    · skip
      refine RQ.seg 2 (pc' := 14) (L' := [some (.ref 0), some (.int (iI w)), some (.int (iI j))]) (st' := [.int (iI 3), .int (iI j)]) (g1 := (HW sc ar tx oc rl ou tl, q)) rfl ?_
      refine RQ.if2 (a := j) (b := 3) rfl rfl rfl rfl (by omega) (by omega) (fun (h3 : j ≤ 3) => ?_) (fun (h3 : ¬ j ≤ 3) => ?_)
      · skip
        refine RQ.seg 4 (pc' := 27) (L' := [some (.ref 0), some (.int (iI w)), some (.int (iI j))]) (st' := [.int (iI w), .ref 4]) (g1 := (HW sc ar tx oc rl ou tl, q)) rfl ?_
        refine RQ.aald (z := w) rfl rfl rfl (by omega) (by decide) ?_
        refine RQ.seg 1 (pc' := 29) (L' := [some (.ref 0), some (.int (iI w)), some (.int (iI j))]) (st' := [.int (iI j), .ref (5 + w.toNat)]) (g1 := (HW sc ar tx oc rl ou tl, q)) rfl ?_
        refine RQ.iald (z := j) rfl rfl (HW_r4 (by omega)) (by omega) (by decide) ?_
        refine RQ.ret rfl rfl ?_
        refine ⟨?_, ?_⟩ <;> ((try unfold sWindow); (repeat (first | rw [if_pos (by omega)] | rw [if_neg (by omega)])); (try rfl))
      · skip
        refine RQ.seg 1 (pc' := 18) (L' := [some (.ref 0), some (.int (iI w)), some (.int (iI j))]) (st' := [.int (iI (-1))]) (g1 := (HW sc ar tx oc rl ou tl, q)) rfl ?_
        refine RQ.ret rfl rfl ?_
        refine ⟨?_, ?_⟩ <;> ((try unfold sWindow); (repeat (first | rw [if_pos (by omega)] | rw [if_neg (by omega)])); (try rfl))
  · skip
    refine RQ.call rfl rfl (x_isWi_f (by omega) hnw h1) ?_
    refine RQ.seg 2 (pc' := 18) (L' := [some (.ref 0), some (.int (iI w)), some (.int (iI j))]) (st' := [.int (iI (-1))]) (g1 := (HW sc ar tx oc rl ou tl, q)) rfl ?_
    refine RQ.ret rfl rfl ?_
    refine ⟨?_, ?_⟩ <;> ((try unfold sWindow); (repeat (first | rw [if_pos (by omega)] | rw [if_neg (by omega)])); (try rfl))
