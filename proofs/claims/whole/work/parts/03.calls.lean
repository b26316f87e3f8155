/-! constants, classes that are made, methods, calls: written by wip/tools/gen3.py -/
def strL : List (String × Nat × String) := [("ThreeLaddersModel", 26, "y"), ("ThreeLaddersModel", 32, "dhcfok"), ("ThreeLaddersModel", 268, "xhcf"), ("ThreeLaddersModel", 270, "anp"), ("ThreeLaddersModel", 272, "pskq")]
def ldcOK (own idx : Nat) : Value → Prop
  | .int v => Cond.constant (cnm own) idx v ∈ GW
  | .long v => Cond.constantLong (cnm own) idx v ∈ GW
  | .retAddr n => ∃ tx, 20 ≤ n ∧ strL[n - 20]? = some (cnm own, idx, tx)
  | _ => False
def ldL10 : List (Nat × Value) := [(177, .int (-nI 1000000)), (219, .int (nI 16777216)), (264, .int (nI 33554432)), (277, .long (6364136223846793005)), (279, .long (1442695040888963407)), (281, .long (28))]
theorem ld_10_177 : ldcOK 10 177 (.int (-nI 1000000)) := gw_i 841 (by decide +kernel) rfl
theorem ld_10_219 : ldcOK 10 219 (.int (nI 16777216)) := gw_i 955 (by decide +kernel) rfl
theorem ld_10_264 : ldcOK 10 264 (.int (nI 33554432)) := gw_i 1097 (by decide +kernel) rfl
theorem ld_10_277 : ldcOK 10 277 (.long (6364136223846793005)) := gw_i 1146 (by decide +kernel) rfl
theorem ld_10_279 : ldcOK 10 279 (.long (1442695040888963407)) := gw_i 1147 (by decide +kernel) rfl
theorem ld_10_281 : ldcOK 10 281 (.long (28)) := gw_i 1148 (by decide +kernel) rfl
theorem ldL10_ok : ∀ e ∈ ldL10, ldcOK 10 e.1 e.2 := List.forall_mem_cons.mpr ⟨ld_10_177, List.forall_mem_cons.mpr ⟨ld_10_219, List.forall_mem_cons.mpr ⟨ld_10_264, List.forall_mem_cons.mpr ⟨ld_10_277, List.forall_mem_cons.mpr ⟨ld_10_279, List.forall_mem_cons.mpr ⟨ld_10_281, fun _ h => absurd h List.not_mem_nil⟩⟩⟩⟩⟩⟩
def ldL4 : List (Nat × Value) := [(111, .int (nI 8421504))]
theorem ld_4_111 : ldcOK 4 111 (.int (nI 8421504)) := gw_i 859 (by decide +kernel) rfl
theorem ldL4_ok : ∀ e ∈ ldL4, ldcOK 4 e.1 e.2 := List.forall_mem_cons.mpr ⟨ld_4_111, fun _ h => absurd h List.not_mem_nil⟩
def ldL15 : List (Nat × Value) := [(265, .int (nI 1431655765)), (266, .int (nI 858993459)), (267, .int (nI 252645135))]
theorem ld_15_265 : ldcOK 15 265 (.int (nI 1431655765)) := gw_i 863 (by decide +kernel) rfl
theorem ld_15_266 : ldcOK 15 266 (.int (nI 858993459)) := gw_i 864 (by decide +kernel) rfl
theorem ld_15_267 : ldcOK 15 267 (.int (nI 252645135)) := gw_i 865 (by decide +kernel) rfl
theorem ldL15_ok : ∀ e ∈ ldL15, ldcOK 15 e.1 e.2 := List.forall_mem_cons.mpr ⟨ld_15_265, List.forall_mem_cons.mpr ⟨ld_15_266, List.forall_mem_cons.mpr ⟨ld_15_267, fun _ h => absurd h List.not_mem_nil⟩⟩⟩
def ldL5 : List (Nat × Value) := [(92, .int (-nI 1000000)), (53, .int (nI 16777216))]
theorem ld_5_92 : ldcOK 5 92 (.int (-nI 1000000)) := gw_i 931 (by decide +kernel) rfl
theorem ld_5_53 : ldcOK 5 53 (.int (nI 16777216)) := gw_i 939 (by decide +kernel) rfl
theorem ldL5_ok : ∀ e ∈ ldL5, ldcOK 5 e.1 e.2 := List.forall_mem_cons.mpr ⟨ld_5_92, List.forall_mem_cons.mpr ⟨ld_5_53, fun _ h => absurd h List.not_mem_nil⟩⟩
def ldL0 : List (Nat × Value) := [(57, .long (-1000000)), (59, .long (1000000))]
theorem ld_0_57 : ldcOK 0 57 (.long (-1000000)) := gw_i 1047 (by decide +kernel) rfl
theorem ld_0_59 : ldcOK 0 59 (.long (1000000)) := gw_i 1048 (by decide +kernel) rfl
theorem ldL0_ok : ∀ e ∈ ldL0, ldcOK 0 e.1 e.2 := List.forall_mem_cons.mpr ⟨ld_0_57, List.forall_mem_cons.mpr ⟨ld_0_59, fun _ h => absurd h List.not_mem_nil⟩⟩
def ldL1 : List (Nat × Value) := [(48, .int (nI 33554432))]
theorem ld_1_48 : ldcOK 1 48 (.int (nI 33554432)) := gw_i 1091 (by decide +kernel) rfl
theorem ldL1_ok : ∀ e ∈ ldL1, ldcOK 1 e.1 e.2 := List.forall_mem_cons.mpr ⟨ld_1_48, fun _ h => absurd h List.not_mem_nil⟩
def ldL11 : List (Nat × Value) := [(26, .retAddr 20), (32, .retAddr 21), (103, .int (nI 46875)), (268, .retAddr 22), (270, .retAddr 23), (272, .retAddr 24), (179, .long (-1000000)), (181, .long (1000000)), (334, .long (5)), (336, .long (3)), (369, .int (-nI 1000000)), (373, .long (2)), (416, .long (9)), (427, .long (40)), (429, .long (6364136223846793005)), (431, .long (1442695040888963407)), (433, .long (28))]
theorem ld_11_26 : ldcOK 11 26 (.retAddr 20) := ⟨"y", by decide, rfl⟩
theorem ld_11_32 : ldcOK 11 32 (.retAddr 21) := ⟨"dhcfok", by decide, rfl⟩
theorem ld_11_103 : ldcOK 11 103 (.int (nI 46875)) := gw_i 1258 (by decide +kernel) rfl
theorem ld_11_268 : ldcOK 11 268 (.retAddr 22) := ⟨"xhcf", by decide, rfl⟩
theorem ld_11_270 : ldcOK 11 270 (.retAddr 23) := ⟨"anp", by decide, rfl⟩
theorem ld_11_272 : ldcOK 11 272 (.retAddr 24) := ⟨"pskq", by decide, rfl⟩
theorem ld_11_179 : ldcOK 11 179 (.long (-1000000)) := gw_i 1629 (by decide +kernel) rfl
theorem ld_11_181 : ldcOK 11 181 (.long (1000000)) := gw_i 1630 (by decide +kernel) rfl
theorem ld_11_334 : ldcOK 11 334 (.long (5)) := gw_i 1661 (by decide +kernel) rfl
theorem ld_11_336 : ldcOK 11 336 (.long (3)) := gw_i 1666 (by decide +kernel) rfl
theorem ld_11_369 : ldcOK 11 369 (.int (-nI 1000000)) := gw_i 1694 (by decide +kernel) rfl
theorem ld_11_373 : ldcOK 11 373 (.long (2)) := gw_i 1720 (by decide +kernel) rfl
theorem ld_11_416 : ldcOK 11 416 (.long (9)) := gw_i 1796 (by decide +kernel) rfl
theorem ld_11_427 : ldcOK 11 427 (.long (40)) := gw_i 1837 (by decide +kernel) rfl
theorem ld_11_429 : ldcOK 11 429 (.long (6364136223846793005)) := gw_i 1838 (by decide +kernel) rfl
theorem ld_11_431 : ldcOK 11 431 (.long (1442695040888963407)) := gw_i 1839 (by decide +kernel) rfl
theorem ld_11_433 : ldcOK 11 433 (.long (28)) := gw_i 1840 (by decide +kernel) rfl
theorem ldL11_ok : ∀ e ∈ ldL11, ldcOK 11 e.1 e.2 := List.forall_mem_cons.mpr ⟨ld_11_26, List.forall_mem_cons.mpr ⟨ld_11_32, List.forall_mem_cons.mpr ⟨ld_11_103, List.forall_mem_cons.mpr ⟨ld_11_268, List.forall_mem_cons.mpr ⟨ld_11_270, List.forall_mem_cons.mpr ⟨ld_11_272, List.forall_mem_cons.mpr ⟨ld_11_179, List.forall_mem_cons.mpr ⟨ld_11_181, List.forall_mem_cons.mpr ⟨ld_11_334, List.forall_mem_cons.mpr ⟨ld_11_336, List.forall_mem_cons.mpr ⟨ld_11_369, List.forall_mem_cons.mpr ⟨ld_11_373, List.forall_mem_cons.mpr ⟨ld_11_416, List.forall_mem_cons.mpr ⟨ld_11_427, List.forall_mem_cons.mpr ⟨ld_11_429, List.forall_mem_cons.mpr ⟨ld_11_431, List.forall_mem_cons.mpr ⟨ld_11_433, fun _ h => absurd h List.not_mem_nil⟩⟩⟩⟩⟩⟩⟩⟩⟩⟩⟩⟩⟩⟩⟩⟩⟩
def ldL13 : List (Nat × Value) := [(138, .long (4294967295))]
theorem ld_13_138 : ldcOK 13 138 (.long (4294967295)) := gw_i 1865 (by decide +kernel) rfl
theorem ldL13_ok : ∀ e ∈ ldL13, ldcOK 13 e.1 e.2 := List.forall_mem_cons.mpr ⟨ld_13_138, fun _ h => absurd h List.not_mem_nil⟩
def ldT : List (Nat × List (Nat × Value)) := [(10, ldL10), (4, ldL4), (15, ldL15), (5, ldL5), (0, ldL0), (1, ldL1), (11, ldL11), (13, ldL13)]
def pldc (own idx : Nat) : Option Value := (alook own ldT).bind (alook idx)
theorem ldT_ok : ∀ z ∈ ldT, ∀ e ∈ z.2, ldcOK z.1 e.1 e.2 := List.forall_mem_cons.mpr ⟨ldL10_ok, List.forall_mem_cons.mpr ⟨ldL4_ok, List.forall_mem_cons.mpr ⟨ldL15_ok, List.forall_mem_cons.mpr ⟨ldL5_ok, List.forall_mem_cons.mpr ⟨ldL0_ok, List.forall_mem_cons.mpr ⟨ldL1_ok, List.forall_mem_cons.mpr ⟨ldL11_ok, List.forall_mem_cons.mpr ⟨ldL13_ok, fun _ h => absurd h List.not_mem_nil⟩⟩⟩⟩⟩⟩⟩⟩
theorem pldc_ok {own idx : Nat} {v : Value} (h : pldc own idx = some v) : ldcOK own idx v := by
  unfold pldc at h
  cases h1 : alook own ldT with
  | none => rw [h1] at h; cases h
  | some z =>
    rw [h1] at h
    exact ldT_ok _ (alook_mem h1) _ (alook_mem h)
def newOK (own idx ci : Nat) : Prop := ∃ C T N, classes[ci]? = some (C, T, N) ∧ Cond.classLink (cnm own) idx C ∈ GW ∧ Cond.instantiable C N ∈ GW ∧ Cond.initialized C ∈ GW
def nwL13 : List (Nat × Nat) := [(8, 10), (16, 11)]
theorem nw_13_8 : newOK 13 8 10 := ⟨"ThreeLadders", TC10, 15, rfl, gw_i 113 (by decide +kernel) rfl, gw_i 114 (by decide +kernel) rfl, gw_i 89 (by decide +kernel) rfl⟩
theorem nw_13_16 : newOK 13 16 11 := ⟨"ThreeLaddersModel", TC11, 66, rfl, gw_i 1250 (by decide +kernel) rfl, gw_i 1251 (by decide +kernel) rfl, gw_i 102 (by decide +kernel) rfl⟩
theorem nwL13_ok : ∀ e ∈ nwL13, newOK 13 e.1 e.2 := List.forall_mem_cons.mpr ⟨nw_13_8, List.forall_mem_cons.mpr ⟨nw_13_16, fun _ h => absurd h List.not_mem_nil⟩⟩
def nwL10 : List (Nat × Nat) := [(7, 9), (16, 2), (23, 3), (32, 7), (39, 0), (45, 8), (55, 4), (64, 6), (73, 5), (82, 1)]
theorem nw_10_7 : newOK 10 7 9 := ⟨"ThreeLadders$Tape", TC9, 2, rfl, gw_i 121 (by decide +kernel) rfl, gw_i 122 (by decide +kernel) rfl, gw_i 90 (by decide +kernel) rfl⟩
theorem nw_10_16 : newOK 10 16 2 := ⟨"ThreeLadders$Front", TC2, 5, rfl, gw_i 139 (by decide +kernel) rfl, gw_i 140 (by decide +kernel) rfl, gw_i 91 (by decide +kernel) rfl⟩
theorem nw_10_23 : newOK 10 23 3 := ⟨"ThreeLadders$FrontReader", TC3, 5, rfl, gw_i 186 (by decide +kernel) rfl, gw_i 187 (by decide +kernel) rfl, gw_i 93 (by decide +kernel) rfl⟩
theorem nw_10_32 : newOK 10 32 7 := ⟨"ThreeLadders$RuleReader", TC7, 4, rfl, gw_i 224 (by decide +kernel) rfl, gw_i 225 (by decide +kernel) rfl, gw_i 94 (by decide +kernel) rfl⟩
theorem nw_10_39 : newOK 10 39 0 := ⟨"ThreeLadders$Code", TC0, 4, rfl, gw_i 261 (by decide +kernel) rfl, gw_i 231 (by decide +kernel) rfl, gw_i 95 (by decide +kernel) rfl⟩
theorem nw_10_45 : newOK 10 45 8 := ⟨"ThreeLadders$Season", TC8, 12, rfl, gw_i 263 (by decide +kernel) rfl, gw_i 264 (by decide +kernel) rfl, gw_i 97 (by decide +kernel) rfl⟩
theorem nw_10_55 : newOK 10 55 4 := ⟨"ThreeLadders$Play", TC4, 13, rfl, gw_i 319 (by decide +kernel) rfl, gw_i 320 (by decide +kernel) rfl, gw_i 98 (by decide +kernel) rfl⟩
theorem nw_10_64 : newOK 10 64 6 := ⟨"ThreeLadders$Rows", TC6, 10, rfl, gw_i 372 (by decide +kernel) rfl, gw_i 373 (by decide +kernel) rfl, gw_i 99 (by decide +kernel) rfl⟩
theorem nw_10_73 : newOK 10 73 5 := ⟨"ThreeLadders$Rests", TC5, 11, rfl, gw_i 417 (by decide +kernel) rfl, gw_i 418 (by decide +kernel) rfl, gw_i 100 (by decide +kernel) rfl⟩
theorem nw_10_82 : newOK 10 82 1 := ⟨"ThreeLadders$Explained", TC1, 4, rfl, gw_i 460 (by decide +kernel) rfl, gw_i 461 (by decide +kernel) rfl, gw_i 101 (by decide +kernel) rfl⟩
theorem nwL10_ok : ∀ e ∈ nwL10, newOK 10 e.1 e.2 := List.forall_mem_cons.mpr ⟨nw_10_7, List.forall_mem_cons.mpr ⟨nw_10_16, List.forall_mem_cons.mpr ⟨nw_10_23, List.forall_mem_cons.mpr ⟨nw_10_32, List.forall_mem_cons.mpr ⟨nw_10_39, List.forall_mem_cons.mpr ⟨nw_10_45, List.forall_mem_cons.mpr ⟨nw_10_55, List.forall_mem_cons.mpr ⟨nw_10_64, List.forall_mem_cons.mpr ⟨nw_10_73, List.forall_mem_cons.mpr ⟨nw_10_82, fun _ h => absurd h List.not_mem_nil⟩⟩⟩⟩⟩⟩⟩⟩⟩⟩
def nwL3 : List (Nat × Nat) := [(9, 2)]
theorem nw_3_9 : newOK 3 9 2 := ⟨"ThreeLadders$Front", TC2, 5, rfl, gw_i 195 (by decide +kernel) rfl, gw_i 140 (by decide +kernel) rfl, gw_i 91 (by decide +kernel) rfl⟩
theorem nwL3_ok : ∀ e ∈ nwL3, newOK 3 e.1 e.2 := List.forall_mem_cons.mpr ⟨nw_3_9, fun _ h => absurd h List.not_mem_nil⟩
def nwL7 : List (Nat × Nat) := [(9, 0)]
theorem nw_7_9 : newOK 7 9 0 := ⟨"ThreeLadders$Code", TC0, 4, rfl, gw_i 230 (by decide +kernel) rfl, gw_i 231 (by decide +kernel) rfl, gw_i 95 (by decide +kernel) rfl⟩
theorem nwL7_ok : ∀ e ∈ nwL7, newOK 7 e.1 e.2 := List.forall_mem_cons.mpr ⟨nw_7_9, fun _ h => absurd h List.not_mem_nil⟩
def nwL0 : List (Nat × Nat) := [(7, 0)]
theorem nw_0_7 : newOK 0 7 0 := ⟨"ThreeLadders$Code", TC0, 4, rfl, gw_i 739 (by decide +kernel) rfl, gw_i 231 (by decide +kernel) rfl, gw_i 95 (by decide +kernel) rfl⟩
theorem nwL0_ok : ∀ e ∈ nwL0, newOK 0 e.1 e.2 := List.forall_mem_cons.mpr ⟨nw_0_7, fun _ h => absurd h List.not_mem_nil⟩
def nwT : List (Nat × List (Nat × Nat)) := [(13, nwL13), (10, nwL10), (3, nwL3), (7, nwL7), (0, nwL0)]
def pnew (own idx : Nat) : Option Nat := (alook own nwT).bind (alook idx)
theorem nwT_ok : ∀ z ∈ nwT, ∀ e ∈ z.2, newOK z.1 e.1 e.2 := List.forall_mem_cons.mpr ⟨nwL13_ok, List.forall_mem_cons.mpr ⟨nwL10_ok, List.forall_mem_cons.mpr ⟨nwL3_ok, List.forall_mem_cons.mpr ⟨nwL7_ok, List.forall_mem_cons.mpr ⟨nwL0_ok, fun _ h => absurd h List.not_mem_nil⟩⟩⟩⟩⟩
theorem pnew_ok {own idx ci : Nat} (h : pnew own idx = some ci) : newOK own idx ci := by
  unfold pnew at h
  cases h1 : alook own nwT with
  | none => rw [h1] at h; cases h
  | some z =>
    rw [h1] at h
    exact nwT_ok _ (alook_mem h1) _ (alook_mem h)
def dfl (ci : Nat) : List Value := [[.null, .int 0, .null, .int 0], [.null, .null, .int 0, .int 0], [.null, .null, .null, .int 0, .int 0], [.null, .int 0, .int 0, .null, .int 0], [.null, .null, .null, .null, .null, .null, .null, .null, .null, .null, .null, .null, .int 0], [.null, .null, .null, .int 0, .int 0, .int 0, .int 0, .int 0, .int 0, .int 0, .int 0], [.null, .null, .null, .null, .null, .null, .int 0, .null, .int 0, .int 0], [.null, .int 0, .int 0, .null], [.null, .null, .null, .null, .null, .int 0, .int 0, .int 0, .null, .null, .null, .null], [.null, .int 0], [.null, .null, .null, .null, .null, .int 0, .null, .null, .int 0, .null, .null, .null, .null, .null, .null], [.int 0, .null, .null, .null, .null, .null, .int 0, .int 0, .int 0, .int 0, .int 0, .int 0, .int 0, .int 0, .int 0, .null, .null, .int 0, .null, .null, .null, .null, .null, .null, .int 0, .int 0, .int 0, .int 0, .int 0, .null, .null, .null, .int 0, .null, .null, .null, .null, .null, .null, .null, .null, .null, .null, .null, .null, .null, .int 0, .int 0, .null, .null, .null, .null, .int 0, .null, .null, .null, .int 0, .null, .null, .int 0, .null, .int 0, .int 0, .int 0, .int 0, .int 0]].getD ci []
def mnaL : List (Nat × Nat) := [(2, 13), (6, 9), (5, 19)]
theorem mnaL_ok : ∀ e ∈ mnaL, Cond.classLink (cnm e.1) e.2 "[[I" ∈ GW := List.forall_mem_cons.mpr ⟨gw_i 147 (by decide +kernel) rfl, List.forall_mem_cons.mpr ⟨gw_i 378 (by decide +kernel) rfl, List.forall_mem_cons.mpr ⟨gw_i 423 (by decide +kernel) rfl, fun _ h => absurd h List.not_mem_nil⟩⟩⟩
def gwc (i : Nat) (w : Cond) : Bool := goodWord w && decide (lw_tbl[i]? = some w)
theorem gwc_ok {i : Nat} {w : Cond} (h : gwc i w = true) : w ∈ GW := by
  unfold gwc at h
  simp only [Bool.and_eq_true, decide_eq_true_eq] at h
  exact gw_i i h.2 h.1
def nwc (i : Nat) (w : Cond) : Bool := isNest w && decide (lw_tbl[i]? = some w)
theorem nwc_ok {i : Nat} {w : Cond} (h : nwc i w = true) : w ∈ NW := by
  unfold nwc at h
  simp only [Bool.and_eq_true, decide_eq_true_eq] at h
  exact nw_i i h.2 h.1
def zall {α β : Type} (c : α → β → Bool) : List α → List β → Bool
  | a :: l, b :: m => c a b && zall c l m
  | [], [] => true
  | _, _ => false
theorem zall_mem {α β : Type} {c : α → β → Bool} : ∀ {l : List α} {m : List β}, zall c l m = true → ∀ e ∈ l, ∃ b, c e b = true
  | [], _, _, _, he => absurd he List.not_mem_nil
  | a :: l, [], h, _, _ => by simp [zall] at h
  | a :: l, b :: m, h, e, he => by
    simp only [zall, Bool.and_eq_true] at h
    rcases List.mem_cons.mp he with h1 | h1
    · exact ⟨b, by rw [h1]; exact h.1⟩
    · exact zall_mem h.2 e h1
def codeAt (i : Nat) : Option (MethodName × ByteArray × Nat × Option FieldType) := match lw_tbl[i]? with
  | some (.code y b m r) => some (y, b, m, r)
  | _ => none
theorem codeAt_ok {i : Nat} {y : MethodName} {b : ByteArray} {m : Nat} {r : Option FieldType} (h : codeAt i = some (y, b, m, r)) : Cond.code y b m r ∈ GW := by
  unfold codeAt at h
  split at h
  · next h1 =>
    cases h
    exact gw_i i h1 rfl
  · cases h
def nmAt (i : Nat) : Option (MethodName × Nat × Option FieldType) := (codeAt i).map (fun q => (q.1, q.2.2.1, q.2.2.2))
/-- the bytes of the code word at a place of the tables -/
def byAt (i : Nat) : ByteArray := ((codeAt i).map (fun q => q.2.1)).getD ⟨#[]⟩
theorem nmAt_ok {i : Nat} {y : MethodName} {m : Nat} {r : Option FieldType} (h : nmAt i = some (y, m, r)) : Cond.code y (byAt i) m r ∈ GW := by
  unfold nmAt at h
  cases hc : codeAt i with
  | none => rw [hc] at h; cases h
  | some q =>
    rw [hc] at h
    obtain ⟨a, b, c, d⟩ := q
    cases h
    unfold byAt
    rw [hc]
    exact codeAt_ok hc
/-- a method: its name, the place of its code among the tables, its locals, what it returns, its class -/
abbrev MI : Type := MethodName × Nat × Nat × Option FieldType × Nat
def mi0 : MI := (⟨"", "", ""⟩, 0, 0, none, 0)
def mthL : List MI := [(⟨"ThreeLadders$Code", "<init>", "(I)V"⟩, 234, 2, none, 0),
  (⟨"ThreeLadders$Code", "append", "(I)V"⟩, 677, 2, none, 0),
  (⟨"ThreeLadders$Code", "copy", "()LThreeLadders$Code;"⟩, 738, 2, (some (FieldType.object "ThreeLadders$Code")), 0),
  (⟨"ThreeLadders$Code", "worth", "([I)I"⟩, 1032, 6, (some FieldType.int), 0),
  (⟨"ThreeLadders$Code", "clauseEnd", "(I)I"⟩, 1058, 3, (some FieldType.int), 0),
  (⟨"ThreeLadders$Code", "push", "(I)V"⟩, 1040, 2, none, 0),
  (⟨"ThreeLadders$Code", "pop", "()I"⟩, 1036, 1, (some FieldType.int), 0),
  (⟨"ThreeLadders$Code", "joinedBy", "(III)J"⟩, 1043, 3, (some FieldType.long), 0),
  (⟨"ThreeLadders$Code", "within", "(J)I"⟩, 1046, 2, (some FieldType.int), 0),
  (⟨"ThreeLadders$Explained", "<init>", "(LThreeLadders$Rows;LThreeLadders$Season;)V"⟩, 464, 3, none, 1),
  (⟨"ThreeLadders$Explained", "forget", "()V"⟩, 730, 1, none, 1),
  (⟨"ThreeLadders$Explained", "findAll", "()V"⟩, 1074, 4, none, 1),
  (⟨"ThreeLadders$Explained", "agrees", "(I)Z"⟩, 1079, 5, (some FieldType.boolean), 1),
  (⟨"ThreeLadders$Explained", "feetOn", "(II)I"⟩, 1083, 4, (some FieldType.int), 1),
  (⟨"ThreeLadders$Explained", "savedFrom", "(II)I"⟩, 1089, 5, (some FieldType.int), 1),
  (⟨"ThreeLadders$Explained", "crossersIn", "(I)I"⟩, 1095, 3, (some FieldType.int), 1),
  (⟨"ThreeLadders$Front", "<init>", "()V"⟩, 143, 1, none, 2),
  (⟨"ThreeLadders$Front", "stands", "()Z"⟩, 757, 1, (some FieldType.boolean), 2),
  (⟨"ThreeLadders$Front", "clear", "()V"⟩, 560, 1, none, 2),
  (⟨"ThreeLadders$Front", "copyFrom", "(LThreeLadders$Front;)V"⟩, 713, 3, none, 2),
  (⟨"ThreeLadders$Front", "isLadderPut", "(I)Z"⟩, 779, 2, (some FieldType.boolean), 2),
  (⟨"ThreeLadders$Front", "mayPut", "(II)Z"⟩, 783, 3, (some FieldType.boolean), 2),
  (⟨"ThreeLadders$Front", "spans", "(III)Z"⟩, 788, 6, (some FieldType.boolean), 2),
  (⟨"ThreeLadders$Front", "windowsWithin", "(I)I"⟩, 1109, 5, (some FieldType.int), 2),
  (⟨"ThreeLadders$FrontReader", "<init>", "(LThreeLadders$Tape;)V"⟩, 190, 2, none, 3),
  (⟨"ThreeLadders$FrontReader", "firstWrong", "()I"⟩, 550, 2, (some FieldType.int), 3),
  (⟨"ThreeLadders$FrontReader", "readClause", "()V"⟩, 575, 3, none, 3),
  (⟨"ThreeLadders$FrontReader", "readItems", "([I[I[I[I)V"⟩, 593, 8, none, 3),
  (⟨"ThreeLadders$Play", "<init>", "(LThreeLadders$Front;)V"⟩, 323, 2, none, 4),
  (⟨"ThreeLadders$Play", "run", "([I)V"⟩, 804, 4, none, 4),
  (⟨"ThreeLadders$Play", "isBack", "(I)Z"⟩, 878, 2, (some FieldType.boolean), 4),
  (⟨"ThreeLadders$Play", "backs", "()I"⟩, 890, 3, (some FieldType.int), 4),
  (⟨"ThreeLadders$Play", "savedAt", "(I)I"⟩, 886, 2, (some FieldType.int), 4),
  (⟨"ThreeLadders$Play", "settleFeet", "([I)V"⟩, 808, 4, none, 4),
  (⟨"ThreeLadders$Play", "hasItsPlace", "(I[I)Z"⟩, 812, 6, (some FieldType.boolean), 4),
  (⟨"ThreeLadders$Play", "shakeAll", "()V"⟩, 816, 3, none, 4),
  (⟨"ThreeLadders$Play", "cross", "(II)Z"⟩, 820, 5, (some FieldType.boolean), 4),
  (⟨"ThreeLadders$Play", "beginVisits", "()V"⟩, 824, 3, none, 4),
  (⟨"ThreeLadders$Play", "inTime", "(II)I"⟩, 828, 3, (some FieldType.int), 4),
  (⟨"ThreeLadders$Play", "nextToSave", "()I"⟩, 832, 3, (some FieldType.int), 4),
  (⟨"ThreeLadders$Play", "takeChild", "(I)V"⟩, 836, 3, none, 4),
  (⟨"ThreeLadders$Play", "leaveEmpty", "(I)V"⟩, 840, 3, none, 4),
  (⟨"ThreeLadders$Play", "outcome", "()I"⟩, 849, 4, (some FieldType.int), 4),
  (⟨"ThreeLadders$Play", "savedIn", "(II)I"⟩, 871, 2, (some FieldType.int), 4),
  (⟨"ThreeLadders$Play", "shakeIn", "(II)I"⟩, 874, 2, (some FieldType.int), 4),
  (⟨"ThreeLadders$Play", "isBackIn", "(II)Z"⟩, 855, 2, (some FieldType.boolean), 4),
  (⟨"ThreeLadders$Play", "allSavedIn", "(I)I"⟩, 868, 1, (some FieldType.int), 4),
  (⟨"ThreeLadders$Play", "gain", "(II[II)I"⟩, 852, 4, (some FieldType.int), 4),
  (⟨"ThreeLadders$Play", "earned", "(IIII)I"⟩, 858, 5, (some FieldType.int), 4),
  (⟨"ThreeLadders$Reader", "<init>", "(LThreeLadders$Tape;)V"⟩, 193, 2, none, 12),
  (⟨"ThreeLadders$Reader", "begin", "()V"⟩, 556, 1, none, 12),
  (⟨"ThreeLadders$Reader", "fine", "()Z"⟩, 571, 1, (some FieldType.boolean), 12),
  (⟨"ThreeLadders$Reader", "refuse", "(I)V"⟩, 603, 2, none, 12),
  (⟨"ThreeLadders$Reader", "look", "()I"⟩, 581, 1, (some FieldType.int), 12),
  (⟨"ThreeLadders$Reader", "here", "()I"⟩, 620, 1, (some FieldType.int), 12),
  (⟨"ThreeLadders$Reader", "expect", "(I)V"⟩, 638, 2, none, 12),
  (⟨"ThreeLadders$Reader", "number", "(I)I"⟩, 609, 4, (some FieldType.int), 12),
  (⟨"ThreeLadders$Reader", "isDigit", "(I)Z"⟩, 613, 1, (some FieldType.boolean), 12),
  (⟨"ThreeLadders$Reader", "placeIn", "([II)I"⟩, 597, 3, (some FieldType.int), 12),
  (⟨"ThreeLadders$Rests", "<init>", "(LThreeLadders$Rows;LThreeLadders$Season;)V"⟩, 421, 3, none, 5),
  (⟨"ThreeLadders$Rests", "forget", "()V"⟩, 726, 1, none, 5),
  (⟨"ThreeLadders$Rests", "findAll", "()V"⟩, 906, 2, none, 5),
  (⟨"ThreeLadders$Rests", "worstSaved", "()I"⟩, 989, 3, (some FieldType.int), 5),
  (⟨"ThreeLadders$Rests", "compareSharings", "()V"⟩, 1000, 3, none, 5),
  (⟨"ThreeLadders$Rests", "mostSavedByRest", "(I)I"⟩, 1004, 4, (some FieldType.int), 5),
  (⟨"ThreeLadders$Rests", "leastBribe", "()I"⟩, 1012, 2, (some FieldType.int), 5),
  (⟨"ThreeLadders$Rests", "findBestWork", "(I)V"⟩, 930, 6, none, 5),
  (⟨"ThreeLadders$Rests", "isRest", "(II)Z"⟩, 943, 4, (some FieldType.boolean), 5),
  (⟨"ThreeLadders$Rests", "boundPay", "(II)Z"⟩, 947, 6, (some FieldType.boolean), 5),
  (⟨"ThreeLadders$Rows", "<init>", "(LThreeLadders$Front;LThreeLadders$Play;)V"⟩, 376, 3, none, 6),
  (⟨"ThreeLadders$Rows", "forget", "()V"⟩, 722, 1, none, 6),
  (⟨"ThreeLadders$Rows", "findAll", "()V"⟩, 910, 3, none, 6),
  (⟨"ThreeLadders$Rows", "makeRoom", "()V"⟩, 919, 3, none, 6),
  (⟨"ThreeLadders$Rows", "listPuts", "()V"⟩, 914, 3, none, 6),
  (⟨"ThreeLadders$Rows", "putIn", "(II)I"⟩, 923, 3, (some FieldType.int), 6),
  (⟨"ThreeLadders$Rows", "othersIn", "(II)I"⟩, 935, 3, (some FieldType.int), 6),
  (⟨"ThreeLadders$Rows", "rowAt", "(I)I"⟩, 967, 4, (some FieldType.int), 6),
  (⟨"ThreeLadders$Rows", "savedAt", "(I)I"⟩, 981, 2, (some FieldType.int), 6),
  (⟨"ThreeLadders$Rows", "mostSaved", "()I"⟩, 977, 1, (some FieldType.int), 6),
  (⟨"ThreeLadders$Rows", "mark", "(IIZ)V"⟩, 954, 4, none, 6),
  (⟨"ThreeLadders$Rows", "isMarked", "(II)Z"⟩, 963, 3, (some FieldType.boolean), 6),
  (⟨"ThreeLadders$Rows", "markedRow", "(II)I"⟩, 959, 5, (some FieldType.int), 6),
  (⟨"ThreeLadders$RuleReader", "<init>", "(LThreeLadders$Tape;)V"⟩, 228, 2, none, 7),
  (⟨"ThreeLadders$RuleReader", "firstWrong", "()I"⟩, 642, 2, (some FieldType.int), 7),
  (⟨"ThreeLadders$RuleReader", "readClause", "()V"⟩, 652, 3, none, 7),
  (⟨"ThreeLadders$RuleReader", "readCondition", "(IZ)V"⟩, 693, 4, none, 7),
  (⟨"ThreeLadders$RuleReader", "readTruth", "(IZ)V"⟩, 697, 4, none, 7),
  (⟨"ThreeLadders$RuleReader", "readUnit", "(IZ)V"⟩, 701, 5, none, 7),
  (⟨"ThreeLadders$RuleReader", "readSum", "(I)V"⟩, 662, 4, none, 7),
  (⟨"ThreeLadders$RuleReader", "readTerm", "(I)V"⟩, 666, 4, none, 7),
  (⟨"ThreeLadders$RuleReader", "readAtom", "(I)V"⟩, 670, 4, none, 7),
  (⟨"ThreeLadders$RuleReader", "mayNest", "(I)Z"⟩, 681, 2, (some FieldType.boolean), 7),
  (⟨"ThreeLadders$Season", "<init>", "()V"⟩, 267, 1, none, 8),
  (⟨"ThreeLadders$Season", "begin", "([I)V"⟩, 717, 3, none, 8),
  (⟨"ThreeLadders$Season", "addAsh", "(III)V"⟩, 1066, 4, none, 8),
  (⟨"ThreeLadders$Season", "savedInAll", "()I"⟩, 1180, 1, (some FieldType.int), 8),
  (⟨"ThreeLadders$Season", "openNight", "()V"⟩, 1129, 2, none, 8),
  (⟨"ThreeLadders$Season", "addToNight", "(III)V"⟩, 1141, 4, none, 8),
  (⟨"ThreeLadders$Season", "takeBack", "()V"⟩, 1160, 2, none, 8),
  (⟨"ThreeLadders$Season", "latest", "(I)I"⟩, 1134, 2, (some FieldType.int), 8),
  (⟨"ThreeLadders$Season", "copyFrom", "(LThreeLadders$Season;)V"⟩, 1168, 2, none, 8),
  (⟨"ThreeLadders$Tape", "<init>", "()V"⟩, 125, 1, none, 9),
  (⟨"ThreeLadders$Tape", "signsIn", "(I)I"⟩, 534, 3, (some FieldType.int), 9),
  (⟨"ThreeLadders$Tape", "append", "(I)V"⟩, 538, 4, none, 9),
  (⟨"ThreeLadders", "<init>", "()V"⟩, 117, 1, none, 10),
  (⟨"ThreeLadders", "feed", "(IIIII)I"⟩, 531, 7, (some FieldType.int), 10),
  (⟨"ThreeLadders", "end", "(I)Z"⟩, 542, 2, (some FieldType.boolean), 10),
  (⟨"ThreeLadders", "fault", "(I)I"⟩, 546, 2, (some FieldType.int), 10),
  (⟨"ThreeLadders", "text", "(I)I"⟩, 705, 2, (some FieldType.int), 10),
  (⟨"ThreeLadders", "brigade", "(II)I"⟩, 1188, 3, (some FieldType.int), 10),
  (⟨"ThreeLadders", "window", "(II)I"⟩, 745, 3, (some FieldType.int), 10),
  (⟨"ThreeLadders", "law", "(I)I"⟩, 753, 2, (some FieldType.int), 10),
  (⟨"ThreeLadders", "change", "(II)Z"⟩, 761, 3, (some FieldType.boolean), 10),
  (⟨"ThreeLadders", "rule", "(II)Z"⟩, 767, 3, (some FieldType.boolean), 10),
  (⟨"ThreeLadders", "reaches", "(II)I"⟩, 775, 3, (some FieldType.int), 10),
  (⟨"ThreeLadders", "told", "(III)I"⟩, 792, 4, (some FieldType.int), 10),
  (⟨"ThreeLadders", "all", "(II)I"⟩, 882, 4, (some FieldType.int), 10),
  (⟨"ThreeLadders", "child", "(III)I"⟩, 894, 4, (some FieldType.int), 10),
  (⟨"ThreeLadders", "best", "(III)I"⟩, 898, 9, (some FieldType.int), 10),
  (⟨"ThreeLadders", "rests", "(I)I"⟩, 902, 2, (some FieldType.int), 10),
  (⟨"ThreeLadders", "most", "(I)I"⟩, 971, 2, (some FieldType.int), 10),
  (⟨"ThreeLadders", "loss", "()I"⟩, 985, 2, (some FieldType.int), 10),
  (⟨"ThreeLadders", "laws", "(I)I"⟩, 996, 2, (some FieldType.int), 10),
  (⟨"ThreeLadders", "bribe", "()I"⟩, 1008, 1, (some FieldType.int), 10),
  (⟨"ThreeLadders", "choice", "()I"⟩, 1017, 3, (some FieldType.int), 10),
  (⟨"ThreeLadders", "ash", "(III)I"⟩, 1062, 6, (some FieldType.int), 10),
  (⟨"ThreeLadders", "explain", "(I)I"⟩, 1070, 2, (some FieldType.int), 10),
  (⟨"ThreeLadders", "knocked", "()I"⟩, 1101, 1, (some FieldType.int), 10),
  (⟨"ThreeLadders", "joined", "(II)I"⟩, 1105, 3, (some FieldType.int), 10),
  (⟨"ThreeLadders", "reach", "(I)I"⟩, 1113, 2, (some FieldType.int), 10),
  (⟨"ThreeLadders", "alone", "(II)I"⟩, 1117, 6, (some FieldType.int), 10),
  (⟨"ThreeLadders", "night", "(I)I"⟩, 1121, 2, (some FieldType.int), 10),
  (⟨"ThreeLadders", "drawn", "(IJ)I"⟩, 1145, 8, (some FieldType.int), 10),
  (⟨"ThreeLadders", "undo", "()I"⟩, 1156, 1, (some FieldType.int), 10),
  (⟨"ThreeLadders", "image", "()I"⟩, 1164, 1, (some FieldType.int), 10),
  (⟨"ThreeLadders", "back", "()I"⟩, 1172, 1, (some FieldType.int), 10),
  (⟨"ThreeLadders", "count", "(I)I"⟩, 1176, 2, (some FieldType.int), 10),
  (⟨"ThreeLadders", "takeFront", "()I"⟩, 709, 1, (some FieldType.int), 10),
  (⟨"ThreeLadders", "takeRule", "()I"⟩, 734, 1, (some FieldType.int), 10),
  (⟨"ThreeLadders", "isBrigade", "(I)Z"⟩, 771, 2, (some FieldType.boolean), 10),
  (⟨"ThreeLadders", "isWindow", "(I)Z"⟩, 749, 2, (some FieldType.boolean), 10),
  (⟨"ThreeLadders", "splitRow", "(I)Z"⟩, 800, 4, (some FieldType.boolean), 10),
  (⟨"ThreeLadders", "playRow", "(I)Z"⟩, 796, 2, (some FieldType.boolean), 10),
  (⟨"ThreeLadders", "gainOf", "(I)I"⟩, 845, 2, (some FieldType.int), 10),
  (⟨"ThreeLadders", "putBy", "()V"⟩, 1125, 3, none, 10),
  (⟨"ThreeLadders", "drawnPut", "(II)I"⟩, 1152, 6, (some FieldType.int), 10),
  (⟨"ThreeLadders", "chosenPut", "(I)I"⟩, 1021, 8, (some FieldType.int), 10),
  (⟨"ThreeLadders", "setLetters", "(II)V"⟩, 1025, 8, none, 10),
  (⟨"ThreeLaddersModel", "<init>", "()V"⟩, 1254, 1, none, 11),
  (⟨"ThreeLaddersModel", "thrown", "()I"⟩, 1462, 1, (some FieldType.int), 11),
  (⟨"ThreeLaddersModel", "isIn", "(JJJ)Z"⟩, 1484, 6, (some FieldType.boolean), 11),
  (⟨"ThreeLaddersModel", "has", "(II)Z"⟩, 1564, 2, (some FieldType.boolean), 11),
  (⟨"ThreeLaddersModel", "isAmong", "(Ljava/lang/String;I)Z"⟩, 1593, 3, (some FieldType.boolean), 11),
  (⟨"ThreeLaddersModel", "bytesIn", "(I)I"⟩, 1469, 3, (some FieldType.int), 11),
  (⟨"ThreeLaddersModel", "put", "(I)V"⟩, 1473, 3, none, 11),
  (⟨"ThreeLaddersModel", "feed", "(IIIII)I"⟩, 1466, 6, (some FieldType.int), 11),
  (⟨"ThreeLaddersModel", "end", "(I)Z"⟩, 1477, 2, (some FieldType.boolean), 11),
  (⟨"ThreeLaddersModel", "look", "()I"⟩, 1503, 1, (some FieldType.int), 11),
  (⟨"ThreeLaddersModel", "fails", "()Z"⟩, 1507, 1, (some FieldType.boolean), 11),
  (⟨"ThreeLaddersModel", "goesIn", "()Z"⟩, 1625, 1, (some FieldType.boolean), 11),
  (⟨"ThreeLaddersModel", "takes", "(I)Z"⟩, 1597, 2, (some FieldType.boolean), 11),
  (⟨"ThreeLaddersModel", "isDigit", "()Z"⟩, 1578, 1, (some FieldType.boolean), 11),
  (⟨"ThreeLaddersModel", "within", "(J)I"⟩, 1628, 2, (some FieldType.int), 11),
  (⟨"ThreeLaddersModel", "atom", "()I"⟩, 1621, 4, (some FieldType.int), 11),
  (⟨"ThreeLaddersModel", "term", "()I"⟩, 1617, 5, (some FieldType.int), 11),
  (⟨"ThreeLaddersModel", "sum", "()I"⟩, 1613, 5, (some FieldType.int), 11),
  (⟨"ThreeLaddersModel", "isSign", "(I)Z"⟩, 1635, 1, (some FieldType.boolean), 11),
  (⟨"ThreeLaddersModel", "compares", "(ZI)Z"⟩, 1609, 6, (some FieldType.boolean), 11),
  (⟨"ThreeLaddersModel", "unit", "()Z"⟩, 1639, 3, (some FieldType.boolean), 11),
  (⟨"ThreeLaddersModel", "part", "(ZI)Z"⟩, 1605, 5, (some FieldType.boolean), 11),
  (⟨"ThreeLaddersModel", "condition", "(ZI)Z"⟩, 1601, 5, (some FieldType.boolean), 11),
  (⟨"ThreeLaddersModel", "clause", "()V"⟩, 1590, 5, none, 11),
  (⟨"ThreeLaddersModel", "opens", "([BII)V"⟩, 1492, 4, none, 11),
  (⟨"ThreeLaddersModel", "goThrough", "([BII)V"⟩, 1586, 4, none, 11),
  (⟨"ThreeLaddersModel", "here", "()I"⟩, 1582, 1, (some FieldType.int), 11),
  (⟨"ThreeLaddersModel", "placeOf", "(Ljava/lang/String;I)I"⟩, 1523, 3, (some FieldType.int), 11),
  (⟨"ThreeLaddersModel", "usual", "(II)I"⟩, 1495, 2, (some FieldType.int), 11),
  (⟨"ThreeLaddersModel", "leastOf", "(II)I"⟩, 1567, 2, (some FieldType.int), 11),
  (⟨"ThreeLaddersModel", "mostOf", "(II)I"⟩, 1570, 2, (some FieldType.int), 11),
  (⟨"ThreeLaddersModel", "readItem", "([IIII)V"⟩, 1574, 7, none, 11),
  (⟨"ThreeLaddersModel", "readClause", "()V"⟩, 1499, 8, none, 11),
  (⟨"ThreeLaddersModel", "readFront", "()V"⟩, 1488, 2, none, 11),
  (⟨"ThreeLaddersModel", "fault", "(I)I"⟩, 1481, 2, (some FieldType.int), 11),
  (⟨"ThreeLaddersModel", "text", "(I)I"⟩, 1643, 4, (some FieldType.int), 11),
  (⟨"ThreeLaddersModel", "isBrigade", "(I)Z"⟩, 1660, 2, (some FieldType.boolean), 11),
  (⟨"ThreeLaddersModel", "brigade", "(II)I"⟩, 1656, 3, (some FieldType.int), 11),
  (⟨"ThreeLaddersModel", "window", "(II)I"⟩, 1665, 3, (some FieldType.int), 11),
  (⟨"ThreeLaddersModel", "law", "(I)I"⟩, 1670, 2, (some FieldType.int), 11),
  (⟨"ThreeLaddersModel", "change", "(II)Z"⟩, 1674, 3, (some FieldType.boolean), 11),
  (⟨"ThreeLaddersModel", "rule", "(II)Z"⟩, 1678, 3, (some FieldType.boolean), 11),
  (⟨"ThreeLaddersModel", "doesReach", "(III)Z"⟩, 1652, 5, (some FieldType.boolean), 11),
  (⟨"ThreeLaddersModel", "layPuts", "()V"⟩, 1648, 5, none, 11),
  (⟨"ThreeLaddersModel", "isPut", "(II)Z"⟩, 1685, 2, (some FieldType.boolean), 11),
  (⟨"ThreeLaddersModel", "reaches", "(II)I"⟩, 1682, 3, (some FieldType.int), 11),
  (⟨"ThreeLaddersModel", "isRow", "(I)Z"⟩, 1693, 6, (some FieldType.boolean), 11),
  (⟨"ThreeLaddersModel", "layFeet", "()V"⟩, 1702, 4, none, 11),
  (⟨"ThreeLaddersModel", "doCross", "(II)Z"⟩, 1706, 3, (some FieldType.boolean), 11),
  (⟨"ThreeLaddersModel", "visit", "(II)V"⟩, 1710, 5, none, 11),
  (⟨"ThreeLaddersModel", "judge", "()V"⟩, 1698, 5, none, 11),
  (⟨"ThreeLaddersModel", "told", "(III)I"⟩, 1689, 4, (some FieldType.int), 11),
  (⟨"ThreeLaddersModel", "all", "(II)I"⟩, 1715, 3, (some FieldType.int), 11),
  (⟨"ThreeLaddersModel", "child", "(III)I"⟩, 1719, 4, (some FieldType.int), 11),
  (⟨"ThreeLaddersModel", "best", "(III)I"⟩, 1724, 7, (some FieldType.int), 11),
  (⟨"ThreeLaddersModel", "strideOf", "(I)I"⟩, 1744, 4, (some FieldType.int), 11),
  (⟨"ThreeLaddersModel", "putAt", "(II)I"⟩, 1740, 3, (some FieldType.int), 11),
  (⟨"ThreeLaddersModel", "takeRow", "(I)V"⟩, 1736, 3, none, 11),
  (⟨"ThreeLaddersModel", "numberOf", "(I)I"⟩, 1752, 4, (some FieldType.int), 11),
  (⟨"ThreeLaddersModel", "layRows", "()V"⟩, 1732, 3, none, 11),
  (⟨"ThreeLaddersModel", "isRest", "(I)Z"⟩, 1748, 5, (some FieldType.boolean), 11),
  (⟨"ThreeLaddersModel", "rests", "(I)I"⟩, 1728, 4, (some FieldType.int), 11),
  (⟨"ThreeLaddersModel", "mostRow", "()I"⟩, 1760, 3, (some FieldType.int), 11),
  (⟨"ThreeLaddersModel", "most", "(I)I"⟩, 1756, 3, (some FieldType.int), 11),
  (⟨"ThreeLaddersModel", "savedInRests", "(Z)I"⟩, 1768, 4, (some FieldType.int), 11),
  (⟨"ThreeLaddersModel", "loss", "()I"⟩, 1764, 2, (some FieldType.int), 11),
  (⟨"ThreeLaddersModel", "laws", "(I)I"⟩, 1772, 7, (some FieldType.int), 11),
  (⟨"ThreeLaddersModel", "payFor", "(I)I"⟩, 1780, 9, (some FieldType.int), 11),
  (⟨"ThreeLaddersModel", "bribe", "()I"⟩, 1776, 5, (some FieldType.int), 11),
  (⟨"ThreeLaddersModel", "worthOf", "(II)I"⟩, 1790, 8, (some FieldType.int), 11),
  (⟨"ThreeLaddersModel", "choice", "()I"⟩, 1786, 7, (some FieldType.int), 11),
  (⟨"ThreeLaddersModel", "ash", "(III)I"⟩, 1795, 4, (some FieldType.int), 11),
  (⟨"ThreeLaddersModel", "isSo", "()Z"⟩, 1804, 4, (some FieldType.boolean), 11),
  (⟨"ThreeLaddersModel", "explain", "(I)I"⟩, 1800, 4, (some FieldType.int), 11),
  (⟨"ThreeLaddersModel", "knocked", "()I"⟩, 1808, 4, (some FieldType.int), 11),
  (⟨"ThreeLaddersModel", "reachBy", "(I)I"⟩, 1816, 5, (some FieldType.int), 11),
  (⟨"ThreeLaddersModel", "joined", "(II)I"⟩, 1812, 3, (some FieldType.int), 11),
  (⟨"ThreeLaddersModel", "reach", "(I)I"⟩, 1820, 2, (some FieldType.int), 11),
  (⟨"ThreeLaddersModel", "alone", "(II)I"⟩, 1824, 6, (some FieldType.int), 11),
  (⟨"ThreeLaddersModel", "putBy", "()V"⟩, 1832, 2, none, 11),
  (⟨"ThreeLaddersModel", "night", "(I)I"⟩, 1828, 2, (some FieldType.int), 11),
  (⟨"ThreeLaddersModel", "drawn", "(IJ)I"⟩, 1836, 10, (some FieldType.int), 11),
  (⟨"ThreeLaddersModel", "undo", "()I"⟩, 1844, 2, (some FieldType.int), 11),
  (⟨"ThreeLaddersModel", "keep", "([I)V"⟩, 1852, 3, none, 11),
  (⟨"ThreeLaddersModel", "bring", "([I)V"⟩, 1860, 3, none, 11),
  (⟨"ThreeLaddersModel", "image", "()I"⟩, 1848, 1, (some FieldType.int), 11),
  (⟨"ThreeLaddersModel", "back", "()I"⟩, 1856, 1, (some FieldType.int), 11),
  (⟨"ThreeLaddersModel", "count", "(I)I"⟩, 1864, 2, (some FieldType.int), 11),
  (⟨"java/lang/Integer", "bitCount", "(I)I"⟩, 862, 1, (some FieldType.int), 15),
  (⟨"java/lang/Math", "floorMod", "(II)I"⟩, 1137, 3, (some FieldType.int), 14),
  (⟨"java/lang/Math", "abs", "(I)I"⟩, 1028, 1, (some FieldType.int), 14),
  (⟨"java/lang/Math", "max", "(II)I"⟩, 238, 2, (some FieldType.int), 14),
  (⟨"java/lang/Math", "max", "(JJ)J"⟩, 1054, 4, (some FieldType.long), 14),
  (⟨"java/lang/Math", "min", "(II)I"⟩, 950, 2, (some FieldType.int), 14),
  (⟨"java/lang/Math", "min", "(JJ)J"⟩, 1051, 4, (some FieldType.long), 14),
  (⟨"java/lang/String", "length", "()I"⟩, 1514, 1, (some FieldType.int), 16),
  (⟨"java/lang/String", "charAt", "(I)C"⟩, 1527, 2, (some FieldType.char), 16)]
def mOK (e : MI) : Prop := Cond.code e.1 (byAt e.2.1) e.2.2.1 e.2.2.2.1 ∈ GW ∧ Cond.initialized e.1.cls ∈ GW ∧ e.1.cls = cnm e.2.2.2.2 ∧ plainFor e.1 = true ∧ e.2.2.1 ≤ 20 ∧ e.1.cls ≠ "java/lang/invoke/MethodHandle" ∧ e.1.cls ≠ "java/lang/invoke/VarHandle"
def mchk (e : MI) (b : Nat) : Bool := decide (nmAt e.2.1 = some (e.1, e.2.2.1, e.2.2.2.1)) && (gwc b (Cond.initialized e.1.cls) && (decide (e.1.cls = cnm e.2.2.2.2) && (plainFor e.1 && (decide (e.2.2.1 ≤ 20) && (decide (e.1.cls ≠ "java/lang/invoke/MethodHandle") && decide (e.1.cls ≠ "java/lang/invoke/VarHandle"))))))
theorem mchk_ok {e : MI} {b : Nat} (h : mchk e b = true) : mOK e := by
  unfold mchk at h
  simp only [Bool.and_eq_true, decide_eq_true_eq] at h
  obtain ⟨h1, h2, h3, h4, h5, h6, h7⟩ := h
  exact ⟨nmAt_ok h1, gwc_ok h2, h3, h4, h5, h6, h7⟩
set_option maxRecDepth 100000 in
theorem mthL_chk : zall mchk mthL [95, 95, 95, 95, 95, 95, 95, 95, 95, 101, 101, 101, 101, 101, 101, 101, 91, 91, 91, 91, 91, 91, 91, 91, 93, 93, 93, 93, 98, 98, 98, 98, 98, 98, 98, 98, 98, 98, 98, 98, 98, 98, 98, 98, 98, 98, 98, 98, 98, 92, 92, 92, 92, 92, 92, 92, 92, 92, 92, 100, 100, 100, 100, 100, 100, 100, 100, 100, 100, 99, 99, 99, 99, 99, 99, 99, 99, 99, 99, 99, 99, 99, 94, 94, 94, 94, 94, 94, 94, 94, 94, 94, 97, 97, 97, 97, 97, 97, 97, 97, 97, 90, 90, 90, 89, 89, 89, 89, 89, 89, 89, 89, 89, 89, 89, 89, 89, 89, 89, 89, 89, 89, 89, 89, 89, 89, 89, 89, 89, 89, 89, 89, 89, 89, 89, 89, 89, 89, 89, 89, 89, 89, 89, 89, 89, 89, 89, 89, 102, 102, 102, 102, 102, 102, 102, 102, 102, 102, 102, 102, 102, 102, 102, 102, 102, 102, 102, 102, 102, 102, 102, 102, 102, 102, 102, 102, 102, 102, 102, 102, 102, 102, 102, 102, 102, 102, 102, 102, 102, 102, 102, 102, 102, 102, 102, 102, 102, 102, 102, 102, 102, 102, 102, 102, 102, 102, 102, 102, 102, 102, 102, 102, 102, 102, 102, 102, 102, 102, 102, 102, 102, 102, 102, 102, 102, 102, 102, 102, 102, 102, 102, 102, 102, 102, 102, 102, 112, 96, 96, 96, 96, 96, 96, 104, 104] = true := by decide +kernel
theorem mthL_ok : ∀ e ∈ mthL, mOK e := fun e he => (zall_mem mthL_chk e he).elim fun _ h => mchk_ok h
def pn (d : String) : Option Nat := (parseMethodDescriptor d).map (fun d => d.parameters.length)
def miN (k : Nat) : MethodName := (mthL.getD k mi0).1
def invSOK (own idx k n : Nat) : Prop := (Cond.methodLink (cnm own) idx (miN k) ∈ GW ∨ ∃ xc, Cond.methodLink (cnm own) idx ⟨xc, (miN k).name, (miN k).desc⟩ ∈ GW ∧ Cond.sameMethod xc (miN k).cls (miN k).name (miN k).desc ∈ GW) ∧ Cond.static (miN k) ∈ GW ∧ pn (miN k).desc = some n
def invIOK (own idx k n : Nat) : Prop := (Cond.methodLink (cnm own) idx (miN k) ∈ GW ∨ ∃ host, Cond.methodLinkNest (cnm own) idx (miN k) host ∈ NW) ∧ Cond.instanceMethod (miN k) ∈ GW ∧ (miN k).name = "<init>" ∧ pn (miN k).desc = some n ∧ (mthL.getD k mi0).2.2.2.1 = none
def invVOK (own idx n ci k : Nat) : Prop := ∃ C T N, classes[ci]? = some (C, T, N) ∧ Cond.instanceMethod (miN k) ∈ GW ∧ pn (miN k).desc = some n ∧ ((Cond.methodLink (cnm own) idx (miN k) ∈ GW ∧ Cond.selects C (miN k) (miN k) ∈ GW ∧ (miN k).cls = C ∧ Cond.initialized C ∈ GW) ∨ ∃ xc, Cond.methodLink (cnm own) idx ⟨xc, (miN k).name, (miN k).desc⟩ ∈ GW ∧ Cond.sameMethod xc (miN k).cls (miN k).name (miN k).desc ∈ GW ∧ Cond.selects C ⟨xc, (miN k).name, (miN k).desc⟩ (miN k) ∈ GW)
def ivSc (own : Nat) (e : Nat × Nat × Nat) (b : String × Nat × Nat × Nat) : Bool := gwc b.2.1 (.static (miN e.2.1)) && (decide (pn (miN e.2.1).desc = some e.2.2) && (if b.1 = "" then gwc b.2.2.1 (.methodLink (cnm own) e.1 (miN e.2.1)) else gwc b.2.2.1 (.methodLink (cnm own) e.1 ⟨b.1, (miN e.2.1).name, (miN e.2.1).desc⟩) && gwc b.2.2.2 (.sameMethod b.1 (miN e.2.1).cls (miN e.2.1).name (miN e.2.1).desc)))
theorem ivSc_ok {own : Nat} {e : Nat × Nat × Nat} {b : String × Nat × Nat × Nat} (h : ivSc own e b = true) : invSOK own e.1 e.2.1 e.2.2 := by
  unfold ivSc at h
  split at h
  · simp only [Bool.and_eq_true, decide_eq_true_eq] at h
    exact ⟨Or.inl (gwc_ok h.2.2), gwc_ok h.1, h.2.1⟩
  · simp only [Bool.and_eq_true, decide_eq_true_eq] at h
    exact ⟨Or.inr ⟨b.1, gwc_ok h.2.2.1, gwc_ok h.2.2.2⟩, gwc_ok h.1, h.2.1⟩
def ivIc (own : Nat) (e : Nat × Nat × Nat) (b : String × Nat × Nat) : Bool := gwc b.2.1 (.instanceMethod (miN e.2.1)) && (decide ((miN e.2.1).name = "<init>") && (decide (pn (miN e.2.1).desc = some e.2.2 ∧ (mthL.getD e.2.1 mi0).2.2.2.1 = none) && (if b.1 = "" then gwc b.2.2 (.methodLink (cnm own) e.1 (miN e.2.1)) else nwc b.2.2 (.methodLinkNest (cnm own) e.1 (miN e.2.1) b.1))))
theorem ivIc_ok {own : Nat} {e : Nat × Nat × Nat} {b : String × Nat × Nat} (h : ivIc own e b = true) : invIOK own e.1 e.2.1 e.2.2 := by
  unfold ivIc at h
  split at h
  · simp only [Bool.and_eq_true, decide_eq_true_eq] at h
    exact ⟨Or.inl (gwc_ok h.2.2.2), gwc_ok h.1, h.2.1, h.2.2.1.1, h.2.2.1.2⟩
  · simp only [Bool.and_eq_true, decide_eq_true_eq] at h
    exact ⟨Or.inr ⟨b.1, nwc_ok h.2.2.2⟩, gwc_ok h.1, h.2.1, h.2.2.1.1, h.2.2.1.2⟩
def ivVc (own idx n : Nat) (z : Nat × Nat) (b : String × Nat × Nat × Nat × Nat) : Bool := match classes[z.1]? with
  | none => false
  | some c => gwc b.2.1 (.instanceMethod (miN z.2)) && (decide (pn (miN z.2).desc = some n) && (if b.1 = "" then gwc b.2.2.1 (.methodLink (cnm own) idx (miN z.2)) && (gwc b.2.2.2.1 (.selects c.1 (miN z.2) (miN z.2)) && (decide ((miN z.2).cls = c.1) && gwc b.2.2.2.2 (.initialized c.1))) else gwc b.2.2.1 (.methodLink (cnm own) idx ⟨b.1, (miN z.2).name, (miN z.2).desc⟩) && (gwc b.2.2.2.1 (.sameMethod b.1 (miN z.2).cls (miN z.2).name (miN z.2).desc) && gwc b.2.2.2.2 (.selects c.1 ⟨b.1, (miN z.2).name, (miN z.2).desc⟩ (miN z.2)))))
theorem ivVc_ok {own idx n : Nat} {z : Nat × Nat} {b : String × Nat × Nat × Nat × Nat} (h : ivVc own idx n z b = true) : invVOK own idx n z.1 z.2 := by
  unfold ivVc at h
  cases hc : classes[z.1]? with
  | none => rw [hc] at h; cases h
  | some c =>
    rw [hc] at h
    dsimp only at h
    split at h
    · simp only [Bool.and_eq_true, decide_eq_true_eq] at h
      exact ⟨c.1, c.2.1, c.2.2, hc, gwc_ok h.1, h.2.1, Or.inl ⟨gwc_ok h.2.2.1, gwc_ok h.2.2.2.1, h.2.2.2.2.1, gwc_ok h.2.2.2.2.2⟩⟩
    · simp only [Bool.and_eq_true, decide_eq_true_eq] at h
      exact ⟨c.1, c.2.1, c.2.2, hc, gwc_ok h.1, h.2.1, Or.inr ⟨b.1, gwc_ok h.2.2.1, gwc_ok h.2.2.2.1, gwc_ok h.2.2.2.2⟩⟩
def ivS0 : List (Nat × Nat × Nat) := [(13, 239, 2), (45, 7, 3), (49, 8, 1), (61, 242, 2), (65, 240, 2)]
set_option maxRecDepth 100000 in
theorem ivS0_chk : zall (ivSc 0) ivS0 [("", 237, 236, 0), ("", 1042, 1041, 0), ("", 1045, 1044, 0), ("", 1050, 1049, 0), ("", 1053, 1052, 0)] = true := by decide +kernel
theorem ivS0_ok : ∀ e ∈ ivS0, invSOK 0 e.1 e.2.1 e.2.2 := fun e he => (zall_mem ivS0_chk e he).elim fun _ h => ivSc_ok h
def ivS1 : List (Nat × Nat × Nat) := [(57, 15, 1), (82, 45, 2), (91, 43, 2), (94, 44, 2)]
set_option maxRecDepth 100000 in
theorem ivS1_chk : zall (ivSc 1) ivS1 [("", 1094, 1093, 0), ("", 854, 1084, 0), ("", 870, 1090, 0), ("", 873, 1096, 0)] = true := by decide +kernel
theorem ivS1_ok : ∀ e ∈ ivS1, invSOK 1 e.1 e.2.1 e.2.2 := fun e he => (zall_mem ivS1_chk e he).elim fun _ h => ivSc_ok h
def ivS3 : List (Nat × Nat × Nat) := [(124, 58, 2)]
set_option maxRecDepth 100000 in
theorem ivS3_chk : zall (ivSc 3) ivS3 [("ThreeLadders$FrontReader", 596, 594, 595)] = true := by decide +kernel
theorem ivS3_ok : ∀ e ∈ ivS3, invSOK 3 e.1 e.2.1 e.2.2 := fun e he => (zall_mem ivS3_chk e he).elim fun _ h => ivSc_ok h
def ivS4 : List (Nat × Nat × Nat) := [(101, 45, 2), (104, 48, 4), (108, 44, 2), (112, 236, 1), (118, 46, 1), (121, 43, 2)]
set_option maxRecDepth 100000 in
theorem ivS4_chk : zall (ivSc 4) ivS4 [("", 854, 853, 0), ("", 857, 856, 0), ("", 873, 872, 0), ("", 861, 860, 0), ("", 867, 866, 0), ("", 870, 869, 0)] = true := by decide +kernel
theorem ivS4_ok : ∀ e ∈ ivS4, invSOK 4 e.1 e.2.1 e.2.2 := fun e he => (zall_mem ivS4_chk e he).elim fun _ h => ivSc_ok h
def ivS12 : List (Nat × Nat × Nat) := [(39, 57, 1)]
set_option maxRecDepth 100000 in
theorem ivS12_chk : zall (ivSc 12) ivS12 [("", 612, 611, 0)] = true := by decide +kernel
theorem ivS12_ok : ∀ e ∈ ivS12, invSOK 12 e.1 e.2.1 e.2.2 := fun e he => (zall_mem ivS12_chk e he).elim fun _ h => ivSc_ok h
def ivS5 : List (Nat × Nat × Nat) := [(109, 45, 2), (114, 47, 4), (118, 239, 2), (126, 241, 2)]
set_option maxRecDepth 100000 in
theorem ivS5_chk : zall (ivSc 5) ivS5 [("", 854, 936, 0), ("", 851, 937, 0), ("", 237, 938, 0), ("", 949, 948, 0)] = true := by decide +kernel
theorem ivS5_ok : ∀ e ∈ ivS5, invSOK 5 e.1 e.2.1 e.2.2 := fun e he => (zall_mem ivS5_chk e he).elim fun _ h => ivSc_ok h
def ivS6 : List (Nat × Nat × Nat) := [(68, 46, 1)]
set_option maxRecDepth 100000 in
theorem ivS6_chk : zall (ivSc 6) ivS6 [("", 867, 926, 0)] = true := by decide +kernel
theorem ivS6_ok : ∀ e ∈ ivS6, invSOK 6 e.1 e.2.1 e.2.2 := fun e he => (zall_mem ivS6_chk e he).elim fun _ h => ivSc_ok h
def ivS7 : List (Nat × Nat × Nat) := [(52, 58, 2)]
set_option maxRecDepth 100000 in
theorem ivS7_chk : zall (ivSc 7) ivS7 [("ThreeLadders$RuleReader", 596, 672, 673)] = true := by decide +kernel
theorem ivS7_ok : ∀ e ∈ ivS7, invSOK 7 e.1 e.2.1 e.2.2 := fun e he => (zall_mem ivS7_chk e he).elim fun _ h => ivSc_ok h
def ivS8 : List (Nat × Nat × Nat) := [(58, 241, 2), (68, 237, 2)]
set_option maxRecDepth 100000 in
theorem ivS8_chk : zall (ivSc 8) ivS8 [("", 949, 1130, 0), ("", 1136, 1135, 0)] = true := by decide +kernel
theorem ivS8_ok : ∀ e ∈ ivS8, invSOK 8 e.1 e.2.1 e.2.2 := fun e he => (zall_mem ivS8_chk e he).elim fun _ h => ivSc_ok h
def ivS10 : List (Nat × Nat × Nat) := [(99, 102, 1), (326, 47, 4), (344, 238, 1)]
set_option maxRecDepth 100000 in
theorem ivS10_chk : zall (ivSc 10) ivS10 [("", 533, 532, 0), ("", 851, 850, 0), ("", 1027, 1026, 0)] = true := by decide +kernel
theorem ivS10_ok : ∀ e ∈ ivS10, invSOK 10 e.1 e.2.1 e.2.2 := fun e he => (zall_mem ivS10_chk e he).elim fun _ h => ivSc_ok h
def ivS11 : List (Nat × Nat × Nat) := [(150, 153, 1), (183, 242, 2), (189, 240, 2), (192, 152, 2), (212, 162, 1), (219, 166, 1), (255, 150, 3), (274, 176, 2), (278, 175, 2), (282, 151, 2), (286, 177, 2), (289, 178, 2), (342, 192, 2), (361, 236, 1), (403, 239, 2), (405, 241, 2), (410, 238, 1)]
set_option maxRecDepth 100000 in
theorem ivS11_chk : zall (ivSc 11) ivS11 [("", 1468, 1467, 0), ("", 1050, 1631, 0), ("", 1053, 1632, 0), ("", 1592, 1591, 0), ("", 1627, 1626, 0), ("", 1634, 1633, 0), ("", 1483, 1482, 0), ("", 1494, 1493, 0), ("", 1522, 1521, 0), ("", 1563, 1562, 0), ("", 1566, 1565, 0), ("", 1569, 1568, 0), ("", 1684, 1683, 0), ("", 861, 1711, 0), ("", 237, 1781, 0), ("", 949, 1782, 0), ("", 1027, 1791, 0)] = true := by decide +kernel
theorem ivS11_ok : ∀ e ∈ ivS11, invSOK 11 e.1 e.2.1 e.2.2 := fun e he => (zall_mem ivS11_chk e he).elim fun _ h => ivSc_ok h
def ivST : List (Nat × List (Nat × Nat × Nat)) := [(0, ivS0), (1, ivS1), (3, ivS3), (4, ivS4), (12, ivS12), (5, ivS5), (6, ivS6), (7, ivS7), (8, ivS8), (10, ivS10), (11, ivS11)]
def pinvS (own idx : Nat) : Option (Nat × Nat) := (alook own ivST).bind (alook idx)
theorem ivST_ok : ∀ z ∈ ivST, ∀ e ∈ z.2, invSOK z.1 e.1 e.2.1 e.2.2 := List.forall_mem_cons.mpr ⟨ivS0_ok, List.forall_mem_cons.mpr ⟨ivS1_ok, List.forall_mem_cons.mpr ⟨ivS3_ok, List.forall_mem_cons.mpr ⟨ivS4_ok, List.forall_mem_cons.mpr ⟨ivS12_ok, List.forall_mem_cons.mpr ⟨ivS5_ok, List.forall_mem_cons.mpr ⟨ivS6_ok, List.forall_mem_cons.mpr ⟨ivS7_ok, List.forall_mem_cons.mpr ⟨ivS8_ok, List.forall_mem_cons.mpr ⟨ivS10_ok, List.forall_mem_cons.mpr ⟨ivS11_ok, fun _ h => absurd h List.not_mem_nil⟩⟩⟩⟩⟩⟩⟩⟩⟩⟩⟩
theorem pinvS_ok {own idx k n : Nat} (h : pinvS own idx = some (k, n)) : invSOK own idx k n := by
  unfold pinvS at h
  cases h1 : alook own ivST with
  | none => rw [h1] at h; cases h
  | some z =>
    rw [h1] at h
    exact ivST_ok _ (alook_mem h1) _ (alook_mem h)
def ivI0 : List (Nat × Nat × Nat) := [(26, 0, 1)]
set_option maxRecDepth 100000 in
theorem ivI0_chk : zall (ivIc 0) ivI0 [("", 233, 740)] = true := by decide +kernel
theorem ivI0_ok : ∀ e ∈ ivI0, invIOK 0 e.1 e.2.1 e.2.2 := fun e he => (zall_mem ivI0_chk e he).elim fun _ h => ivIc_ok h
def ivI3 : List (Nat × Nat × Nat) := [(3, 49, 1), (11, 16, 0)]
set_option maxRecDepth 100000 in
theorem ivI3_chk : zall (ivIc 3) ivI3 [("", 192, 191), ("ThreeLadders", 142, 196)] = true := by decide +kernel
theorem ivI3_ok : ∀ e ∈ ivI3, invIOK 3 e.1 e.2.1 e.2.2 := fun e he => (zall_mem ivI3_chk e he).elim fun _ h => ivIc_ok h
def ivI7 : List (Nat × Nat × Nat) := [(3, 49, 1), (11, 0, 1)]
set_option maxRecDepth 100000 in
theorem ivI7_chk : zall (ivIc 7) ivI7 [("", 192, 229), ("", 233, 232)] = true := by decide +kernel
theorem ivI7_ok : ∀ e ∈ ivI7, invIOK 7 e.1 e.2.1 e.2.2 := fun e he => (zall_mem ivI7_chk e he).elim fun _ h => ivIc_ok h
def ivI10 : List (Nat × Nat × Nat) := [(9, 101, 0), (18, 16, 0), (25, 24, 1), (34, 82, 1), (47, 92, 0), (57, 28, 1), (66, 69, 2), (75, 59, 2), (84, 9, 2)]
set_option maxRecDepth 100000 in
theorem ivI10_chk : zall (ivIc 10) ivI10 [("ThreeLadders", 124, 123), ("ThreeLadders", 142, 141), ("", 189, 188), ("", 227, 226), ("ThreeLadders", 266, 265), ("", 322, 321), ("", 375, 374), ("", 420, 419), ("", 463, 462)] = true := by decide +kernel
theorem ivI10_ok : ∀ e ∈ ivI10, invIOK 10 e.1 e.2.1 e.2.2 := fun e he => (zall_mem ivI10_chk e he).elim fun _ h => ivIc_ok h
def ivI13 : List (Nat × Nat × Nat) := [(15, 104, 0), (18, 148, 0)]
set_option maxRecDepth 100000 in
theorem ivI13_chk : zall (ivIc 13) ivI13 [("", 116, 115), ("", 1253, 1252)] = true := by decide +kernel
theorem ivI13_ok : ∀ e ∈ ivI13, invIOK 13 e.1 e.2.1 e.2.2 := fun e he => (zall_mem ivI13_chk e he).elim fun _ h => ivIc_ok h
def ivIT : List (Nat × List (Nat × Nat × Nat)) := [(0, ivI0), (3, ivI3), (7, ivI7), (10, ivI10), (13, ivI13)]
def pinvI (own idx : Nat) : Option (Nat × Nat) := (alook own ivIT).bind (alook idx)
theorem ivIT_ok : ∀ z ∈ ivIT, ∀ e ∈ z.2, invIOK z.1 e.1 e.2.1 e.2.2 := List.forall_mem_cons.mpr ⟨ivI0_ok, List.forall_mem_cons.mpr ⟨ivI3_ok, List.forall_mem_cons.mpr ⟨ivI7_ok, List.forall_mem_cons.mpr ⟨ivI10_ok, List.forall_mem_cons.mpr ⟨ivI13_ok, fun _ h => absurd h List.not_mem_nil⟩⟩⟩⟩⟩
theorem pinvI_ok {own idx k n : Nat} (h : pinvI own idx = some (k, n)) : invIOK own idx k n := by
  unfold pinvI at h
  cases h1 : alook own ivIT with
  | none => rw [h1] at h; cases h
  | some z =>
    rw [h1] at h
    exact ivIT_ok _ (alook_mem h1) _ (alook_mem h)
def ivV0 : List (Nat × Nat × List (Nat × Nat)) := [(38, 0, [(0, 6)]), (42, 1, [(0, 5)]), (53, 1, [(0, 4)])]
set_option maxRecDepth 100000 in
theorem ivV0_chk : zall (fun e b => zall (ivVc 0 e.1 e.2.1) e.2.2 b) ivV0 [[("", 1035, 1033, 35, 95)], [("", 1039, 1037, 36, 95)], [("", 1057, 1055, 37, 95)]] = true := by decide +kernel
theorem ivV0_ok : ∀ e ∈ ivV0, ∀ z ∈ e.2.2, invVOK 0 e.1 e.2.1 z.1 z.2 := fun e he => (zall_mem ivV0_chk e he).elim fun _ h z hz => (zall_mem h z hz).elim fun _ h1 => ivVc_ok h1
def ivV1 : List (Nat × Nat × List (Nat × Nat)) := [(23, 0, [(6, 71)]), (44, 1, [(1, 12)]), (49, 3, [(6, 79)]), (72, 2, [(1, 13)]), (76, 2, [(1, 14)]), (88, 2, [(6, 74)])]
set_option maxRecDepth 100000 in
theorem ivV1_chk : zall (fun e b => zall (ivVc 1 e.1 e.2.1) e.2.2 b) ivV1 [[("", 908, 1075, 909, 99)], [("", 1078, 1076, 38, 101)], [("", 952, 1092, 953, 99)], [("", 1082, 1080, 39, 101)], [("", 1088, 1086, 40, 101)], [("", 921, 1085, 922, 99)]] = true := by decide +kernel
theorem ivV1_ok : ∀ e ∈ ivV1, ∀ z ∈ e.2.2, invVOK 1 e.1 e.2.1 z.1 z.2 := fun e he => (zall_mem ivV1_chk e he).elim fun _ h z hz => (zall_mem h z hz).elim fun _ h1 => ivVc_ok h1
def ivV2 : List (Nat × Nat × List (Nat × Nat)) := [(48, 1, [(2, 20)]), (52, 3, [(2, 22)])]
set_option maxRecDepth 100000 in
theorem ivV2_chk : zall (fun e b => zall (ivVc 2 e.1 e.2.1) e.2.2 b) ivV2 [[("", 777, 784, 778, 91)], [("", 787, 785, 14, 91)]] = true := by decide +kernel
theorem ivV2_ok : ∀ e ∈ ivV2, ∀ z ∈ e.2.2, invVOK 2 e.1 e.2.1 z.1 z.2 := fun e he => (zall_mem ivV2_chk e he).elim fun _ h z hz => (zall_mem h z hz).elim fun _ h1 => ivVc_ok h1
def ivV3 : List (Nat × Nat × List (Nat × Nat)) := [(20, 0, [(3, 50)]), (23, 0, [(2, 18)]), (30, 0, [(3, 51)]), (34, 0, [(3, 26)]), (37, 0, [(3, 53)]), (41, 1, [(3, 55)]), (61, 1, [(3, 52)]), (90, 4, [(3, 27)]), (128, 1, [(3, 56)])]
set_option maxRecDepth 100000 in
theorem ivV3_chk : zall (fun e b => zall (ivVc 3 e.1 e.2.1) e.2.2 b) ivV3 [[("ThreeLadders$FrontReader", 555, 551, 552, 554)], [("", 558, 557, 559, 91)], [("ThreeLadders$FrontReader", 570, 566, 567, 569)], [("", 574, 572, 0, 93)], [("ThreeLadders$FrontReader", 580, 576, 577, 579)], [("ThreeLadders$FrontReader", 637, 633, 634, 636)], [("ThreeLadders$FrontReader", 602, 598, 599, 601)], [("", 592, 590, 1, 93)], [("ThreeLadders$FrontReader", 608, 604, 605, 607)]] = true := by decide +kernel
theorem ivV3_ok : ∀ e ∈ ivV3, ∀ z ∈ e.2.2, invVOK 3 e.1 e.2.1 z.1 z.2 := fun e he => (zall_mem ivV3_chk e he).elim fun _ h z hz => (zall_mem h z hz).elim fun _ h1 => ivVc_ok h1
def ivV4 : List (Nat × Nat × List (Nat × Nat)) := [(49, 1, [(4, 33)]), (53, 0, [(4, 35)]), (56, 0, [(4, 37)]), (59, 0, [(4, 39)]), (63, 1, [(4, 40)]), (77, 2, [(4, 34)]), (84, 2, [(4, 36)]), (94, 2, [(4, 38)]), (98, 1, [(4, 41)])]
set_option maxRecDepth 100000 in
theorem ivV4_chk : zall (fun e b => zall (ivVc 4 e.1 e.2.1) e.2.2 b) ivV4 [[("", 807, 805, 17, 98)], [("", 815, 813, 19, 98)], [("", 823, 821, 21, 98)], [("", 831, 829, 23, 98)], [("", 835, 833, 24, 98)], [("", 811, 809, 18, 98)], [("", 819, 817, 20, 98)], [("", 827, 825, 22, 98)], [("", 839, 837, 25, 98)]] = true := by decide +kernel
theorem ivV4_ok : ∀ e ∈ ivV4, ∀ z ∈ e.2.2, invVOK 4 e.1 e.2.1 z.1 z.2 := fun e he => (zall_mem ivV4_chk e he).elim fun _ h z hz => (zall_mem h z hz).elim fun _ h1 => ivVc_ok h1
def ivV12 : List (Nat × Nat × List (Nat × Nat)) := [(31, 0, [(3, 53), (7, 53)]), (35, 1, [(3, 52), (7, 52)]), (43, 0, [(3, 54), (7, 54)])]
set_option maxRecDepth 100000 in
theorem ivV12_chk : zall (fun e b => zall (ivVc 12 e.1 e.2.1) e.2.2 b) ivV12 [[("ThreeLadders$Reader", 580, 610, 1867, 1868), ("ThreeLadders$Reader", 580, 610, 1867, 1869)], [("ThreeLadders$Reader", 602, 614, 1870, 1871), ("ThreeLadders$Reader", 602, 614, 1870, 1872)], [("ThreeLadders$Reader", 616, 615, 617, 618), ("ThreeLadders$Reader", 616, 615, 617, 619)]] = true := by decide +kernel
theorem ivV12_ok : ∀ e ∈ ivV12, ∀ z ∈ e.2.2, invVOK 12 e.1 e.2.1 z.1 z.2 := fun e he => (zall_mem ivV12_chk e he).elim fun _ h z hz => (zall_mem h z hz).elim fun _ h1 => ivVc_ok h1
def ivV5 : List (Nat × Nat × List (Nat × Nat)) := [(34, 0, [(6, 71)]), (45, 1, [(5, 66)]), (54, 2, [(5, 67)]), (58, 3, [(6, 79)]), (62, 0, [(5, 61)]), (63, 2, [(6, 80)]), (66, 1, [(6, 77)]), (76, 1, [(5, 64)]), (82, 0, [(6, 78)]), (86, 2, [(5, 68)]), (102, 2, [(6, 75)])]
set_option maxRecDepth 100000 in
theorem ivV5_chk : zall (fun e b => zall (ivVc 5 e.1 e.2.1) e.2.2 b) ivV5 [[("", 908, 907, 909, 99)], [("", 929, 927, 29, 100)], [("", 942, 940, 30, 100)], [("", 952, 951, 953, 99)], [("", 904, 990, 905, 100)], [("", 961, 991, 962, 99)], [("", 979, 992, 980, 99)], [("", 1003, 1001, 32, 100)], [("", 975, 1013, 976, 99)], [("", 946, 944, 31, 100)], [("", 933, 932, 934, 99)]] = true := by decide +kernel
theorem ivV5_ok : ∀ e ∈ ivV5, ∀ z ∈ e.2.2, invVOK 5 e.1 e.2.1 z.1 z.2 := fun e he => (zall_mem ivV5_chk e he).elim fun _ h z hz => (zall_mem h z hz).elim fun _ h1 => ivVc_ok h1
def ivV6 : List (Nat × Nat × List (Nat × Nat)) := [(45, 0, [(6, 73)]), (48, 0, [(6, 72)]), (54, 2, [(6, 74)]), (58, 1, [(4, 29)]), (64, 0, [(4, 42)]), (77, 2, [(2, 21)]), (81, 1, [(6, 77)]), (84, 2, [(6, 80)]), (87, 1, [(6, 76)])]
set_option maxRecDepth 100000 in
theorem ivV6_chk : zall (fun e b => zall (ivVc 6 e.1 e.2.1) e.2.2 b) ivV6 [[("", 913, 911, 27, 99)], [("", 918, 916, 28, 99)], [("", 921, 920, 922, 99)], [("", 802, 924, 803, 98)], [("", 847, 925, 848, 98)], [("", 781, 915, 782, 91)], [("", 979, 978, 980, 99)], [("", 961, 960, 962, 99)], [("", 965, 964, 966, 99)]] = true := by decide +kernel
theorem ivV6_ok : ∀ e ∈ ivV6, ∀ z ∈ e.2.2, invVOK 6 e.1 e.2.1 z.1 z.2 := fun e he => (zall_mem ivV6_chk e he).elim fun _ h z hz => (zall_mem h z hz).elim fun _ h1 => ivVc_ok h1
def ivV7 : List (Nat × Nat × List (Nat × Nat)) := [(20, 0, [(7, 50)]), (28, 0, [(7, 51)]), (32, 0, [(7, 84)]), (35, 0, [(7, 53)]), (39, 1, [(7, 55)]), (45, 1, [(7, 88)]), (56, 2, [(7, 85)]), (60, 1, [(0, 1)]), (63, 2, [(7, 86)]), (69, 2, [(7, 87)]), (72, 1, [(7, 91)]), (76, 1, [(7, 52)]), (79, 1, [(7, 89)]), (82, 1, [(7, 90)]), (88, 1, [(7, 56)])]
set_option maxRecDepth 100000 in
theorem ivV7_chk : zall (fun e b => zall (ivVc 7 e.1 e.2.1) e.2.2 b) ivV7 [[("ThreeLadders$RuleReader", 555, 643, 644, 645)], [("ThreeLadders$RuleReader", 570, 646, 647, 648)], [("", 651, 649, 2, 94)], [("ThreeLadders$RuleReader", 580, 656, 657, 658)], [("ThreeLadders$RuleReader", 637, 653, 654, 655)], [("", 661, 659, 3, 94)], [("", 692, 690, 7, 94)], [("", 675, 674, 676, 95)], [("", 696, 694, 8, 94)], [("", 700, 698, 9, 94)], [("", 680, 678, 6, 94)], [("ThreeLadders$RuleReader", 602, 682, 683, 684)], [("", 665, 663, 4, 94)], [("", 669, 667, 5, 94)], [("ThreeLadders$RuleReader", 608, 685, 686, 687)]] = true := by decide +kernel
theorem ivV7_ok : ∀ e ∈ ivV7, ∀ z ∈ e.2.2, invVOK 7 e.1 e.2.1 z.1 z.2 := fun e he => (zall_mem ivV7_chk e he).elim fun _ h z hz => (zall_mem h z hz).elim fun _ h1 => ivVc_ok h1
def ivV8 : List (Nat × Nat × List (Nat × Nat)) := [(64, 1, [(8, 99)])]
set_option maxRecDepth 100000 in
theorem ivV8_chk : zall (fun e b => zall (ivVc 8 e.1 e.2.1) e.2.2 b) ivV8 [[("", 1133, 1131, 42, 97)]] = true := by decide +kernel
theorem ivV8_ok : ∀ e ∈ ivV8, ∀ z ∈ e.2.2, invVOK 8 e.1 e.2.1 z.1 z.2 := fun e he => (zall_mem ivV8_chk e he).elim fun _ h z hz => (zall_mem h z hz).elim fun _ h1 => ivVc_ok h1
def ivV10 : List (Nat × Nat × List (Nat × Nat)) := [(107, 1, [(9, 103)]), (111, 0, [(3, 25)]), (115, 0, [(7, 83)]), (116, 0, [(10, 137)]), (119, 0, [(10, 138)]), (122, 1, [(10, 139)]), (142, 1, [(10, 140)]), (148, 0, [(2, 17)]), (161, 0, [(5, 60)]), (167, 1, [(2, 20)]), (170, 2, [(2, 21)]), (174, 1, [(10, 142)]), (179, 1, [(10, 143)]), (182, 1, [(4, 30)]), (194, 1, [(4, 32)]), (197, 0, [(4, 31)]), (209, 1, [(10, 141)]), (212, 1, [(4, 29)]), (216, 0, [(5, 61)]), (220, 2, [(6, 81)]), (224, 0, [(6, 71)]), (228, 1, [(6, 76)]), (231, 0, [(6, 78)]), (234, 0, [(5, 62)]), (237, 0, [(5, 63)]), (246, 0, [(5, 65)]), (252, 1, [(10, 146)]), (258, 3, [(8, 94)]), (262, 0, [(1, 10)]), (263, 0, [(1, 11)]), (268, 1, [(2, 23)]), (271, 0, [(10, 144)]), (283, 2, [(10, 145)]), (289, 0, [(8, 98)]), (292, 1, [(8, 100)]), (303, 0, [(8, 95)]), (309, 1, [(2, 19)]), (312, 1, [(8, 93)]), (315, 0, [(6, 70)]), (319, 0, [(0, 2)]), (323, 0, [(4, 42)]), (330, 0, [(8, 96)]), (333, 3, [(8, 97)]), (336, 2, [(10, 147)]), (340, 1, [(0, 3)])]
set_option maxRecDepth 100000 in
theorem ivV10_chk : zall (fun e b => zall (ivVc 10 e.1 e.2.1) e.2.2 b) ivV10 [[("", 536, 535, 537, 90)], [("", 548, 547, 549, 93)], [("", 640, 639, 641, 94)], [("", 708, 706, 10, 89)], [("", 733, 731, 11, 89)], [("", 770, 768, 13, 89)], [("", 748, 746, 12, 89)], [("", 755, 754, 756, 91)], [("", 724, 723, 725, 100)], [("", 777, 776, 778, 91)], [("", 781, 780, 782, 91)], [("", 795, 793, 15, 89)], [("", 844, 842, 26, 89)], [("", 876, 875, 877, 98)], [("", 884, 883, 885, 98)], [("", 888, 887, 889, 98)], [("", 799, 797, 16, 89)], [("", 802, 801, 803, 98)], [("", 904, 903, 905, 100)], [("", 957, 956, 958, 99)], [("", 908, 972, 909, 99)], [("", 965, 973, 966, 99)], [("", 975, 974, 976, 99)], [("", 987, 986, 988, 100)], [("", 998, 997, 999, 100)], [("", 1010, 1009, 1011, 100)], [("", 1020, 1018, 33, 89)], [("", 1064, 1063, 1065, 97)], [("", 728, 727, 729, 101)], [("", 1072, 1071, 1073, 101)], [("", 1107, 1106, 1108, 91)], [("", 1124, 1122, 41, 89)], [("", 1151, 1149, 43, 89)], [("", 1158, 1157, 1159, 97)], [("", 1166, 1165, 1167, 97)], [("", 1178, 1177, 1179, 97)], [("", 711, 710, 712, 91)], [("", 715, 714, 716, 97)], [("", 720, 719, 721, 99)], [("", 736, 735, 737, 95)], [("", 847, 846, 848, 98)], [("", 1127, 1126, 1128, 97)], [("", 1139, 1138, 1140, 97)], [("", 1024, 1022, 34, 89)], [("", 1030, 1029, 1031, 95)]] = true := by decide +kernel
theorem ivV10_ok : ∀ e ∈ ivV10, ∀ z ∈ e.2.2, invVOK 10 e.1 e.2.1 z.1 z.2 := fun e he => (zall_mem ivV10_chk e he).elim fun _ h z hz => (zall_mem h z hz).elim fun _ h1 => ivVc_ok h1
def ivV11 : List (Nat × Nat × List (Nat × Nat)) := [(154, 1, [(11, 154)]), (172, 0, [(11, 158)]), (176, 0, [(11, 157)]), (196, 0, [(11, 159)]), (199, 0, [(11, 165)]), (202, 1, [(11, 160)]), (206, 0, [(11, 161)]), (209, 0, [(11, 163)]), (216, 0, [(11, 164)]), (222, 0, [(11, 168)]), (225, 2, [(11, 170)]), (229, 2, [(11, 167)]), (232, 2, [(11, 169)]), (245, 3, [(11, 172)]), (249, 0, [(11, 171)]), (252, 0, [(11, 174)]), (292, 4, [(11, 179)]), (296, 0, [(11, 180)]), (299, 0, [(11, 181)]), (302, 3, [(11, 173)]), (308, 1, [(11, 182)]), (328, 0, [(11, 191)]), (331, 1, [(11, 184)]), (338, 3, [(11, 190)]), (351, 0, [(11, 195)]), (354, 2, [(11, 196)]), (357, 2, [(11, 197)]), (366, 1, [(11, 194)]), (370, 0, [(11, 198)]), (375, 1, [(11, 203)]), (378, 2, [(11, 204)]), (381, 1, [(11, 205)]), (387, 0, [(11, 207)]), (390, 1, [(11, 208)]), (393, 1, [(11, 206)]), (396, 0, [(11, 210)]), (399, 1, [(11, 212)]), (407, 1, [(11, 215)]), (413, 2, [(11, 217)]), (418, 0, [(11, 220)]), (421, 1, [(11, 223)]), (424, 0, [(11, 227)]), (438, 1, [(11, 231)]), (451, 1, [(11, 232)])]
set_option maxRecDepth 100000 in
theorem ivV11_chk : zall (fun e b => zall (ivVc 11 e.1 e.2.1) e.2.2 b) ivV11 [[("", 1472, 1470, 45, 102)], [("", 1506, 1504, 50, 102)], [("", 1502, 1500, 49, 102)], [("", 1624, 1622, 63, 102)], [("", 1612, 1610, 60, 102)], [("", 1596, 1594, 56, 102)], [("", 1577, 1575, 52, 102)], [("", 1620, 1618, 62, 102)], [("", 1616, 1614, 61, 102)], [("", 1638, 1636, 64, 102)], [("", 1600, 1598, 57, 102)], [("", 1608, 1606, 59, 102)], [("", 1604, 1602, 58, 102)], [("", 1491, 1489, 47, 102)], [("", 1589, 1587, 55, 102)], [("", 1581, 1579, 53, 102)], [("", 1573, 1571, 51, 102)], [("", 1498, 1496, 48, 102)], [("", 1487, 1485, 46, 102)], [("", 1585, 1583, 54, 102)], [("", 1479, 1644, 1480, 102)], [("", 1647, 1645, 65, 102)], [("", 1659, 1657, 67, 102)], [("", 1651, 1649, 66, 102)], [("", 1701, 1699, 70, 102)], [("", 1705, 1703, 71, 102)], [("", 1709, 1707, 72, 102)], [("", 1692, 1690, 68, 102)], [("", 1697, 1695, 69, 102)], [("", 1743, 1741, 76, 102)], [("", 1739, 1737, 75, 102)], [("", 1735, 1733, 74, 102)], [("", 1731, 1729, 73, 102)], [("", 1747, 1745, 77, 102)], [("", 1751, 1749, 78, 102)], [("", 1759, 1757, 79, 102)], [("", 1767, 1765, 80, 102)], [("", 1779, 1777, 81, 102)], [("", 1789, 1787, 82, 102)], [("", 1803, 1801, 83, 102)], [("", 1815, 1813, 84, 102)], [("", 1831, 1829, 85, 102)], [("", 1851, 1849, 86, 102)], [("", 1859, 1857, 87, 102)]] = true := by decide +kernel
theorem ivV11_ok : ∀ e ∈ ivV11, ∀ z ∈ e.2.2, invVOK 11 e.1 e.2.1 z.1 z.2 := fun e he => (zall_mem ivV11_chk e he).elim fun _ h z hz => (zall_mem h z hz).elim fun _ h1 => ivVc_ok h1
def ivV13 : List (Nat × Nat × List (Nat × Nat)) := [(7, 2, [(10, 109)]), (19, 5, [(10, 105)]), (23, 5, [(11, 155)]), (24, 1, [(10, 106)]), (28, 1, [(11, 156)]), (29, 1, [(10, 107)]), (33, 1, [(11, 182)]), (34, 1, [(10, 108)]), (37, 1, [(11, 183)]), (43, 2, [(11, 185)]), (44, 0, [(11, 149)]), (48, 2, [(10, 110)]), (51, 2, [(11, 186)]), (52, 1, [(10, 111)]), (55, 1, [(11, 187)]), (56, 2, [(10, 112)]), (60, 2, [(11, 188)]), (61, 2, [(10, 113)]), (64, 2, [(11, 189)]), (65, 2, [(10, 114)]), (68, 2, [(11, 193)]), (69, 3, [(10, 115)]), (73, 3, [(11, 199)]), (74, 2, [(10, 116)]), (77, 2, [(11, 200)]), (78, 3, [(10, 117)]), (81, 3, [(11, 201)]), (82, 3, [(10, 118)]), (85, 3, [(11, 202)]), (86, 1, [(10, 119)]), (89, 1, [(11, 209)]), (90, 1, [(10, 120)]), (93, 1, [(11, 211)]), (94, 0, [(10, 121)]), (97, 0, [(11, 213)]), (98, 1, [(10, 122)]), (101, 1, [(11, 214)]), (102, 0, [(10, 123)]), (105, 0, [(11, 216)]), (106, 0, [(10, 124)]), (109, 0, [(11, 218)]), (110, 3, [(10, 125)]), (113, 3, [(11, 219)]), (114, 1, [(10, 126)]), (117, 1, [(11, 221)]), (118, 0, [(10, 127)]), (121, 0, [(11, 222)]), (122, 2, [(10, 128)]), (125, 2, [(11, 224)]), (126, 1, [(10, 129)]), (129, 1, [(11, 225)]), (130, 2, [(10, 130)]), (133, 2, [(11, 226)]), (134, 1, [(10, 131)]), (137, 1, [(11, 228)]), (140, 2, [(10, 132)]), (144, 2, [(11, 229)]), (145, 0, [(10, 133)]), (148, 0, [(11, 230)]), (149, 0, [(10, 134)]), (152, 0, [(11, 233)]), (153, 0, [(10, 135)]), (156, 0, [(11, 234)]), (157, 1, [(10, 136)]), (160, 1, [(11, 235)])]
set_option maxRecDepth 100000 in
theorem ivV13_chk : zall (fun e b => zall (ivVc 13 e.1 e.2.1) e.2.2 b) ivV13 [[("", 1186, 1185, 1187, 89)], [("", 529, 528, 530, 89)], [("", 1464, 1463, 1465, 102)], [("", 540, 539, 541, 89)], [("", 1475, 1474, 1476, 102)], [("", 544, 543, 545, 89)], [("", 1479, 1478, 1480, 102)], [("", 703, 702, 704, 89)], [("", 1641, 1640, 1642, 102)], [("", 1654, 1653, 1655, 102)], [("", 1460, 1459, 1461, 102)], [("", 743, 742, 744, 89)], [("", 1663, 1662, 1664, 102)], [("", 751, 750, 752, 89)], [("", 1668, 1667, 1669, 102)], [("", 759, 758, 760, 89)], [("", 1672, 1671, 1673, 102)], [("", 765, 764, 766, 89)], [("", 1676, 1675, 1677, 102)], [("", 773, 772, 774, 89)], [("", 1680, 1679, 1681, 102)], [("", 790, 789, 791, 89)], [("", 1687, 1686, 1688, 102)], [("", 880, 879, 881, 89)], [("", 1713, 1712, 1714, 102)], [("", 892, 891, 893, 89)], [("", 1717, 1716, 1718, 102)], [("", 896, 895, 897, 89)], [("", 1722, 1721, 1723, 102)], [("", 900, 899, 901, 89)], [("", 1726, 1725, 1727, 102)], [("", 969, 968, 970, 89)], [("", 1754, 1753, 1755, 102)], [("", 983, 982, 984, 89)], [("", 1762, 1761, 1763, 102)], [("", 994, 993, 995, 89)], [("", 1770, 1769, 1771, 102)], [("", 1006, 1005, 1007, 89)], [("", 1774, 1773, 1775, 102)], [("", 1015, 1014, 1016, 89)], [("", 1784, 1783, 1785, 102)], [("", 1060, 1059, 1061, 89)], [("", 1793, 1792, 1794, 102)], [("", 1068, 1067, 1069, 89)], [("", 1798, 1797, 1799, 102)], [("", 1099, 1098, 1100, 89)], [("", 1806, 1805, 1807, 102)], [("", 1103, 1102, 1104, 89)], [("", 1810, 1809, 1811, 102)], [("", 1111, 1110, 1112, 89)], [("", 1818, 1817, 1819, 102)], [("", 1115, 1114, 1116, 89)], [("", 1822, 1821, 1823, 102)], [("", 1119, 1118, 1120, 89)], [("", 1826, 1825, 1827, 102)], [("", 1143, 1142, 1144, 89)], [("", 1834, 1833, 1835, 102)], [("", 1154, 1153, 1155, 89)], [("", 1842, 1841, 1843, 102)], [("", 1162, 1161, 1163, 89)], [("", 1846, 1845, 1847, 102)], [("", 1170, 1169, 1171, 89)], [("", 1854, 1853, 1855, 102)], [("", 1174, 1173, 1175, 89)], [("", 1862, 1861, 1863, 102)]] = true := by decide +kernel
theorem ivV13_ok : ∀ e ∈ ivV13, ∀ z ∈ e.2.2, invVOK 13 e.1 e.2.1 z.1 z.2 := fun e he => (zall_mem ivV13_chk e he).elim fun _ h z hz => (zall_mem h z hz).elim fun _ h1 => ivVc_ok h1
def ivVT : List (Nat × List (Nat × Nat × List (Nat × Nat))) := [(0, ivV0), (1, ivV1), (2, ivV2), (3, ivV3), (4, ivV4), (12, ivV12), (5, ivV5), (6, ivV6), (7, ivV7), (8, ivV8), (10, ivV10), (11, ivV11), (13, ivV13)]
def pinvV (own idx : Nat) : Option (Nat × List (Nat × Nat)) := (alook own ivVT).bind (alook idx)
theorem ivVT_ok : ∀ y ∈ ivVT, ∀ e ∈ y.2, ∀ z ∈ e.2.2, invVOK y.1 e.1 e.2.1 z.1 z.2 := List.forall_mem_cons.mpr ⟨ivV0_ok, List.forall_mem_cons.mpr ⟨ivV1_ok, List.forall_mem_cons.mpr ⟨ivV2_ok, List.forall_mem_cons.mpr ⟨ivV3_ok, List.forall_mem_cons.mpr ⟨ivV4_ok, List.forall_mem_cons.mpr ⟨ivV12_ok, List.forall_mem_cons.mpr ⟨ivV5_ok, List.forall_mem_cons.mpr ⟨ivV6_ok, List.forall_mem_cons.mpr ⟨ivV7_ok, List.forall_mem_cons.mpr ⟨ivV8_ok, List.forall_mem_cons.mpr ⟨ivV10_ok, List.forall_mem_cons.mpr ⟨ivV11_ok, List.forall_mem_cons.mpr ⟨ivV13_ok, fun _ h => absurd h List.not_mem_nil⟩⟩⟩⟩⟩⟩⟩⟩⟩⟩⟩⟩⟩
theorem pinvV_ok {own idx n : Nat} {l : List (Nat × Nat)} (h : pinvV own idx = some (n, l)) : ∀ z ∈ l, invVOK own idx n z.1 z.2 := by
  unfold pinvV at h
  cases h1 : alook own ivVT with
  | none => rw [h1] at h; cases h
  | some z =>
    rw [h1] at h
    exact ivVT_ok _ (alook_mem h1) _ (alook_mem h)
def obL : List (Nat × Nat) := [(0, 1), (1, 3), (2, 3), (4, 5), (12, 3), (5, 3), (6, 3), (8, 3), (9, 3), (10, 1), (11, 1)]
theorem obL_ok : ∀ e ∈ obL, Cond.methodLink (cnm e.1) e.2 objectInit ∈ GW := List.forall_mem_cons.mpr ⟨gw_i 235 (by decide +kernel) rfl, List.forall_mem_cons.mpr ⟨gw_i 465 (by decide +kernel) rfl, List.forall_mem_cons.mpr ⟨gw_i 144 (by decide +kernel) rfl, List.forall_mem_cons.mpr ⟨gw_i 324 (by decide +kernel) rfl, List.forall_mem_cons.mpr ⟨gw_i 194 (by decide +kernel) rfl, List.forall_mem_cons.mpr ⟨gw_i 422 (by decide +kernel) rfl, List.forall_mem_cons.mpr ⟨gw_i 377 (by decide +kernel) rfl, List.forall_mem_cons.mpr ⟨gw_i 268 (by decide +kernel) rfl, List.forall_mem_cons.mpr ⟨gw_i 126 (by decide +kernel) rfl, List.forall_mem_cons.mpr ⟨gw_i 118 (by decide +kernel) rfl, List.forall_mem_cons.mpr ⟨gw_i 1255 (by decide +kernel) rfl, fun _ h => absurd h List.not_mem_nil⟩⟩⟩⟩⟩⟩⟩⟩⟩⟩⟩
theorem ob_i : Cond.instanceMethod objectInit ∈ GW := gw_i 119 (by decide +kernel) rfl
theorem ob_c : Cond.code objectInit ⟨#[0xb1]⟩ 1 none ∈ GW := gw_i 120 (by decide +kernel) rfl
def acL : List (Nat × Nat) := [(0, 29), (2, 42), (3, 75), (8, 42)]
theorem acL_ok : ∀ e ∈ acL, Cond.methodLink (cnm e.1) e.2 arraycopyName ∈ GW := List.forall_mem_cons.mpr ⟨gw_i 741 (by decide +kernel) rfl, List.forall_mem_cons.mpr ⟨gw_i 563 (by decide +kernel) rfl, List.forall_mem_cons.mpr ⟨gw_i 584 (by decide +kernel) rfl, List.forall_mem_cons.mpr ⟨gw_i 718 (by decide +kernel) rfl, fun _ h => absurd h List.not_mem_nil⟩⟩⟩⟩
theorem ac_n : Cond.native arraycopyName ∈ GW := gw_i 565 (by decide +kernel) rfl
theorem ac_s : Cond.static arraycopyName ∈ GW := gw_i 564 (by decide +kernel) rfl
theorem ac_i : Cond.initialized "java/lang/System" ∈ GW := gw_i 103 (by decide +kernel) rfl
theorem arc_int : Cond.arrayClass .int ∈ GW := gw_i 138 (by decide +kernel) rfl
theorem arc_byte : Cond.arrayClass .byte ∈ GW := gw_i 1458 (by decide +kernel) rfl
theorem arc_long : Cond.arrayClass .long ∈ GW := gw_i 1866 (by decide +kernel) rfl
theorem st_243 : Cond.methodLink (cnm 11) 138 (miN 243) ∈ GW ∧ Cond.instanceMethod (miN 243) ∈ GW ∧ Cond.selects "java/lang/String" (miN 243) (miN 243) ∈ GW ∧ (miN 243).cls = "java/lang/String" ∧ pn (miN 243).desc = some 0 := ⟨gw_i 1511 (by decide +kernel) rfl, gw_i 1512 (by decide +kernel) rfl, gw_i 1513 (by decide +kernel) rfl, rfl, by decide +kernel⟩
theorem st_244 : Cond.methodLink (cnm 11) 144 (miN 244) ∈ GW ∧ Cond.instanceMethod (miN 244) ∈ GW ∧ Cond.selects "java/lang/String" (miN 244) (miN 244) ∈ GW ∧ (miN 244).cls = "java/lang/String" ∧ pn (miN 244).desc = some 1 := ⟨gw_i 1524 (by decide +kernel) rfl, gw_i 1525 (by decide +kernel) rfl, gw_i 1526 (by decide +kernel) rfl, rfl, by decide +kernel⟩
theorem st_i : Cond.initialized "java/lang/String" ∈ GW := gw_i 104 (by decide +kernel) rfl
