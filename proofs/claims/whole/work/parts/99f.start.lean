/-! what the Statement gives at the start -/
def FL : List Cond := flatC (Jvm.Cond.and given_1 narrow_1)
def tlS : String := "ThreeLadders"
def arOK (nm : String) (N : Nat) (f : Nat → Int32) : Prop := Cond.laysStatic tlS nm "[I" ∈ lw_tbl ∧ Cond.arrayOf (.static tlS nm "[I") .int ∈ FL ∧ Cond.eq (.length (.static tlS nm "[I")) (.int (Int32.ofNat N)) ∈ FL ∧ ∀ j, j < N → Cond.eq (.elem (.static tlS nm "[I") (.int (Int32.ofNat j))) (.int (f j)) ∈ FL
theorem in_tl : Cond.initialized tlS ∈ lw_tbl := by decide +kernel
theorem arOK_0 : arOK "WINDOW_LETTERS" 4 (zA kc0) := ⟨by decide +kernel, by decide +kernel, by decide +kernel, by decide +kernel⟩
theorem arOK_1 : arOK "BRIGADE_LETTERS" 3 (zA kc1) := ⟨by decide +kernel, by decide +kernel, by decide +kernel, by decide +kernel⟩
theorem arOK_2 : arOK "LAW_LETTERS" 4 (zA kc2) := ⟨by decide +kernel, by decide +kernel, by decide +kernel, by decide +kernel⟩
theorem arOK_3 : arOK "RULE_LETTERS" 6 (zA kc3) := ⟨by decide +kernel, by decide +kernel, by decide +kernel, by decide +kernel⟩
theorem arOK_4 : arOK "LAW_UNTOLD" 4 (zA kc4) := ⟨by decide +kernel, by decide +kernel, by decide +kernel, by decide +kernel⟩
theorem arOK_5 : arOK "WINDOW_UNTOLD" 4 (zA kc5) := ⟨by decide +kernel, by decide +kernel, by decide +kernel, by decide +kernel⟩
theorem arOK_6 : arOK "WINDOW_LEAST" 4 (zA kc6) := ⟨by decide +kernel, by decide +kernel, by decide +kernel, by decide +kernel⟩
theorem arOK_7 : arOK "WINDOW_MOST" 4 (zA kc7) := ⟨by decide +kernel, by decide +kernel, by decide +kernel, by decide +kernel⟩
theorem arOK_8 : arOK "BRIGADE_UNTOLD" 3 (zA kc8) := ⟨by decide +kernel, by decide +kernel, by decide +kernel, by decide +kernel⟩
theorem arOK_9 : arOK "BRIGADE_LEAST" 3 (zA kc9) := ⟨by decide +kernel, by decide +kernel, by decide +kernel, by decide +kernel⟩
theorem arOK_10 : arOK "BRIGADE_MOST" 3 (zA kc10) := ⟨by decide +kernel, by decide +kernel, by decide +kernel, by decide +kernel⟩
theorem arOK_11 : arOK "LAW_LEAST" 4 (zA kc11) := ⟨by decide +kernel, by decide +kernel, by decide +kernel, by decide +kernel⟩
theorem arOK_12 : arOK "LAW_MOST" 4 (zA kc12) := ⟨by decide +kernel, by decide +kernel, by decide +kernel, by decide +kernel⟩
theorem arOK_13 : arOK "COMPARISONS" 3 (zA kc13) := ⟨by decide +kernel, by decide +kernel, by decide +kernel, by decide +kernel⟩
section St
variable {s : State} {args : Array Value} {A : Nat → Prop}
theorem ar_at {nm : String} {N : Nat} {f : Nat → Int32} (hts : ∀ w ∈ lw_tbl, w.before args s = true) (hs : ∀ w ∈ FL, w.before args s = true) (hA : ∀ a : Nat, a < s.heap.size → ¬ A a) (hN : N < 2 ^ 31) (h : arOK nm N f) : ∃ t, va_Z tlS nm "[I" (.ref t) A s s.heap ∧ va_T .int t N (fun j => .int (f j)) A s s.heap := by
  obtain ⟨h1, h3, h4, h5⟩ := h
  obtain ⟨t, q1, q2⟩ := va_Tof (f := fun j => .int (f j)) hN (hs _ h3) (va_eqt (hs _ h4)) (fun j hj => va_eqt (hs _ (h5 j hj))) hA
  exact ⟨t, va_Zof (hts _ h1) (hts _ in_tl) q1 hA, q2⟩
theorem st_ex (L : Nat) (xs : Nat → Int32) (hts : ∀ w ∈ lw_tbl, w.before args s = true) (hs : ∀ w ∈ FL, w.before args s = true) (hA : ∀ a : Nat, a < s.heap.size → ¬ A a) : ∀ n : Nat, ∃ t : Nat, (∀ C nm, statL[n]? = some (C, nm) → va_Z C nm "[I" (.ref t) A s s.heap) ∧ (n ≠ 19 → ∀ N f, KL L xs n = some (N, f) → va_T .int t N (fun j => .int (f j)) A s s.heap)
  | 0 => by
    obtain ⟨t, h1, h2⟩ := ar_at hts hs hA (by decide) arOK_0
    exact ⟨t, fun C nm h => by cases h; exact h1, fun _ N f h => by cases h; exact h2⟩
  | 1 => by
    obtain ⟨t, h1, h2⟩ := ar_at hts hs hA (by decide) arOK_1
    exact ⟨t, fun C nm h => by cases h; exact h1, fun _ N f h => by cases h; exact h2⟩
  | 2 => by
    obtain ⟨t, h1, h2⟩ := ar_at hts hs hA (by decide) arOK_2
    exact ⟨t, fun C nm h => by cases h; exact h1, fun _ N f h => by cases h; exact h2⟩
  | 3 => by
    obtain ⟨t, h1, h2⟩ := ar_at hts hs hA (by decide) arOK_3
    exact ⟨t, fun C nm h => by cases h; exact h1, fun _ N f h => by cases h; exact h2⟩
  | 4 => by
    obtain ⟨t, h1, h2⟩ := ar_at hts hs hA (by decide) arOK_4
    exact ⟨t, fun C nm h => by cases h; exact h1, fun _ N f h => by cases h; exact h2⟩
  | 5 => by
    obtain ⟨t, h1, h2⟩ := ar_at hts hs hA (by decide) arOK_5
    exact ⟨t, fun C nm h => by cases h; exact h1, fun _ N f h => by cases h; exact h2⟩
  | 6 => by
    obtain ⟨t, h1, h2⟩ := ar_at hts hs hA (by decide) arOK_6
    exact ⟨t, fun C nm h => by cases h; exact h1, fun _ N f h => by cases h; exact h2⟩
  | 7 => by
    obtain ⟨t, h1, h2⟩ := ar_at hts hs hA (by decide) arOK_7
    exact ⟨t, fun C nm h => by cases h; exact h1, fun _ N f h => by cases h; exact h2⟩
  | 8 => by
    obtain ⟨t, h1, h2⟩ := ar_at hts hs hA (by decide) arOK_8
    exact ⟨t, fun C nm h => by cases h; exact h1, fun _ N f h => by cases h; exact h2⟩
  | 9 => by
    obtain ⟨t, h1, h2⟩ := ar_at hts hs hA (by decide) arOK_9
    exact ⟨t, fun C nm h => by cases h; exact h1, fun _ N f h => by cases h; exact h2⟩
  | 10 => by
    obtain ⟨t, h1, h2⟩ := ar_at hts hs hA (by decide) arOK_10
    exact ⟨t, fun C nm h => by cases h; exact h1, fun _ N f h => by cases h; exact h2⟩
  | 11 => by
    obtain ⟨t, h1, h2⟩ := ar_at hts hs hA (by decide) arOK_11
    exact ⟨t, fun C nm h => by cases h; exact h1, fun _ N f h => by cases h; exact h2⟩
  | 12 => by
    obtain ⟨t, h1, h2⟩ := ar_at hts hs hA (by decide) arOK_12
    exact ⟨t, fun C nm h => by cases h; exact h1, fun _ N f h => by cases h; exact h2⟩
  | 13 => by
    obtain ⟨t, h1, h2⟩ := ar_at hts hs hA (by decide) arOK_13
    exact ⟨t, fun C nm h => by cases h; exact h1, fun _ N f h => by cases h; exact h2⟩
  | n + 14 => by
    refine ⟨0, fun C nm h => ?_, fun hn N f h => ?_⟩
    · cases h
    · have h1 := alook_mem h
      simp only [List.mem_cons, List.not_mem_nil, or_false, Prod.mk.injEq] at h1
      omega
def tmS (i : Nat) : Term := .string "ThreeLaddersModel" ([26, 32, 268, 270, 272].getD i 0)
theorem str_w : ∀ i, i < 5 → Cond.exactly (tmS i) "java/lang/String" ∈ FL ∧ Cond.eq (.field (tmS i) "java/lang/String" "coder" "B") (.int 0) ∈ FL ∧ Cond.arrayOf (.field (tmS i) "java/lang/String" "value" "[B") .byte ∈ FL ∧ Cond.eq (.length (.field (tmS i) "java/lang/String" "value" "[B")) (.int (Int32.ofNat (strN.getD i 0))) ∈ FL ∧ ∀ j, j < strN.getD i 0 → Cond.eq (.elem (.field (tmS i) "java/lang/String" "value" "[B") (.int (Int32.ofNat j))) (.int ((strB.getD i []).getD j 0)) ∈ FL := by decide +kernel
theorem str_n : ∀ i, i < 5 → ∀ j, j < 5 → i ≠ j → Cond.not (Cond.eq (tmS i) (tmS j)) ∈ FL ∨ Cond.not (Cond.eq (tmS j) (tmS i)) ∈ FL := by decide +kernel
theorem str_r : ∀ i, i < 5 → Cond.stringRef "ThreeLaddersModel" ([26, 32, 268, 270, 272].getD i 0) (["y", "dhcfok", "xhcf", "anp", "pskq"].getD i "") ∈ lw_tbl := by decide +kernel
theorem w_ls : Cond.laysStatic "java/lang/String" "COMPACT_STRINGS" "Z" ∈ lw_tbl ∧ Cond.initialized "java/lang/String" ∈ lw_tbl ∧ Cond.eq (.static "java/lang/String" "COMPACT_STRINGS" "Z") (.int 1) ∈ FL := by decide +kernel
theorem w_lp : Cond.laysStatic "jdk/internal/util/Preconditions" "SIOOBE_FORMATTER" "Ljava/util/function/BiFunction;" ∈ lw_tbl ∧ Cond.initialized "jdk/internal/util/Preconditions" ∈ lw_tbl ∧ Cond.isRef (.static "jdk/internal/util/Preconditions" "SIOOBE_FORMATTER" "Ljava/util/function/BiFunction;") ∈ FL := by decide +kernel
theorem w_lu : Cond.laysStatic Bundle.tN "UNASSIGNED_STACK" Bundle.steD ∈ lw_tbl ∧ Cond.initialized Bundle.tN ∈ lw_tbl ∧ Cond.isRef (.static Bundle.tN "UNASSIGNED_STACK" Bundle.steD) ∈ FL := by decide +kernel
theorem w_lv : Cond.laysStatic Bundle.tN "SUPPRESSED_SENTINEL" Bundle.listD ∈ lw_tbl ∧ Cond.isRef (.static Bundle.tN "SUPPRESSED_SENTINEL" Bundle.listD) ∈ FL := by decide +kernel
theorem w_ao : Cond.arrayOver (.object "ThreeLadders$Code") ∈ lw_tbl ∧ Cond.arrayOver (.array .int) ∈ lw_tbl := by decide +kernel
theorem aoa_of (h : (Cond.arrayOver (.array .int)).before args s = true) : va_AOA .int s := by
  obtain ⟨comp, c, k, h1, h2, h3, h4, h5⟩ := arrayOver_specB (first := s) (o := none) (idx := []) h
  exact ⟨comp, c, k, h1, h2, h3, h4, h5⟩
theorem start_US (hts : ∀ w ∈ lw_tbl, w.before args s = true) (hs : ∀ w ∈ FL, w.before args s = true) (hA : ∀ a : Nat, a < s.heap.size → ¬ A a) : USt A s s.heap := by
  refine ⟨vx_Zqof (hts _ w_lu.1) (hts _ w_lu.2.1) (hs _ w_lu.2.2) hA, vx_Zqof (hts _ w_lv.1) (hts _ w_lu.2.1) (hs _ w_lv.2) hA, fun w hw => ?_⟩
  have h1 := List.mem_filter.mp hw
  cases w with
  | castable a b => exact va_tabs rfl rfl (hts _ h1.1)
  | declares a => exact va_tabs rfl rfl (hts _ h1.1)
  | _ => simp [isCast] at h1
theorem start_NW (hts : ∀ w ∈ lw_tbl, w.before args s = true) : ∀ w ∈ NW, va_Nw w s := fun w hw => by
  have h1 := List.mem_filter.mp hw
  cases w with
  | fieldLinkNest a b c d e f => exact va_tabs rfl rfl (hts _ h1.1)
  | methodLinkNest a b c d => exact va_tabs rfl rfl (hts _ h1.1)
  | _ => simp [isNest] at h1
theorem inst_w : ∀ q ∈ classes, Cond.instantiable q.1 q.2.2 ∈ lw_tbl := by decide +kernel
theorem start_K (hts : ∀ w ∈ lw_tbl, w.before args s = true) : ∃ D : va_G, va_K D classes [] s := by
  have h : ∀ k : Nat, ∃ z : ClassId × (Nat → Nat), ∀ q : vw_C, classes[k]? = some q → u_Kn s q.1 q.2.1 q.2.2 z.1 z.2 := by
    intro k
    cases hk : classes[k]? with
    | none => exact ⟨(0, fun _ => 0), fun q hq => by cases hq⟩
    | some q =>
      obtain ⟨C, T, N⟩ := q
      have hc := cls_ok hk
      obtain ⟨cC, iS, hu⟩ := u_known (C := C) (T := T) (N := N) (n := N) hts (fun w hw => (List.mem_filter.mp (hc.1 w hw)).1) (hts _ (inst_w _ (List.mem_of_getElem? hk)))
      exact ⟨(cC, iS), fun q hq => by cases hq; exact hu⟩
  obtain ⟨z, hz⟩ := Classical.skolem.mp h
  exact ⟨(fun k => (z k).1, fun k => (z k).2), fun c q hq => hz c q hq, fun k q hk => by cases hk⟩
theorem start_CE {b L : Nat} {xs : Nat → Int32} (hts : ∀ w ∈ lw_tbl, w.before args s = true) (hs : ∀ w ∈ FL, w.before args s = true) (hA : ∀ a : Nat, a < s.heap.size → ¬ A a) (hX : va_X b L xs s s.heap) (hbl : b < s.heap.size) : ∃ ka : Nat → Nat, ka 19 = b ∧ CE (KL L xs) ka A s s.heap := by
  obtain ⟨t, ht⟩ := Classical.skolem.mp (st_ex L xs hts hs hA)
  obtain ⟨adK, adV, hv, he⟩ := vk_Sof (N := 5) (tm := tmS) (len := strN) (byt := strB) (A := A) (by decide) (fun i hi => hs _ (str_w i hi).1) (fun i hi => hs _ (str_w i hi).2.1) (fun i hi => hs _ (str_w i hi).2.2.1) (fun i hi => hs _ (str_w i hi).2.2.2.1) (fun i hi j hj => hs _ ((str_w i hi).2.2.2.2 j hj)) (fun i j hi hj hij => (str_n i hi j hj hij).elim (fun h => Or.inl (hs _ h)) (fun h => Or.inr (hs _ h))) hA
  refine ⟨fun n => if n = 19 then b else if 20 ≤ n then adK (n - 20) else t n, if_pos rfl, ?_, ?_, ?_, hts _ w_ao.1, aoa_of (hts _ w_ao.2), ⟨adV, ?_⟩, va_Zof (hts _ w_ls.1) (hts _ w_ls.2.1) (va_eqi (hs _ w_ls.2.2)) hA, ?_⟩
  · intro n C nm hn
    have hl : n < 14 := (List.getElem?_eq_some_iff.mp hn).1
    dsimp only
    rw [if_neg (by omega), if_neg (by omega)]
    exact (ht n).1 C nm hn
  · intro n N f hn
    dsimp only
    by_cases h9 : n = 19
    · subst h9
      rw [if_pos rfl]
      cases hn
      obtain ⟨scr, q1, q2, q3, q4, q5⟩ := hX
      exact ⟨scr, q1, q2, q3, by omega, by rw [q4], q5, hA b hbl⟩
    · have hl : n < 14 := by
        have h1 := alook_mem hn
        simp only [List.mem_cons, List.not_mem_nil, or_false, Prod.mk.injEq] at h1
        omega
      rw [if_neg h9, if_neg (by omega)]
      exact (ht n).2 h9 N f hn
  · intro n own idx tx hn
    have hl : n < 5 := (List.getElem?_eq_some_iff.mp hn).1
    dsimp only
    rw [if_neg (by omega), if_pos (by omega), show 20 + n - 20 = n by omega]
    have h2 := he n hl
    have h3 := hts _ (str_r n hl)
    rcases (show n = 0 ∨ n = 1 ∨ n = 2 ∨ n = 3 ∨ n = 4 by omega) with rfl | rfl | rfl | rfl | rfl <;> (cases hn; exact vk_R.of h3 h2)
  · have e : (fun i => (fun n => if n = 19 then b else if 20 ≤ n then adK (n - 20) else t n) (20 + i)) = adK := funext fun i => by
      dsimp only
      rw [if_neg (by omega), if_pos (by omega), show 20 + i - 20 = i by omega]
    rw [e]
    exact hv
  · rcases va_Zqof (hts _ w_lp.1) (hts _ w_lp.2.1) (hs _ w_lp.2.2) hA with h | ⟨a, h⟩
    · exact ⟨.null, Or.inl rfl, h⟩
    · exact ⟨.ref a, Or.inr ⟨a, rfl⟩, h⟩
end St
