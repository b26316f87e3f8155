/-! texts of the machine: length and charAt -/
def jS : String := "java/lang/String"
def jL : String := "java/lang/StringLatin1"
def jP : String := "jdk/internal/util/Preconditions"
def yCo : MethodName := ⟨jS, "coder", "()B"⟩
def yIL : MethodName := ⟨jS, "isLatin1", "()Z"⟩
def yCI : MethodName := ⟨jS, "checkIndex", "(II)V"⟩
def yLC : MethodName := ⟨jL, "charAt", "([BI)C"⟩
def yPI : MethodName := ⟨jP, "checkIndex", "(IILjava/util/function/BiFunction;)I"⟩
def SA (sz : Nat) : Nat → Prop := fun q => sz ≤ q
def SC (ka adV : Nat → Nat) (sz : Nat) (U : State) : Prop := U.heap.size = sz ∧ vk_S 5 strN strB (fun i => ka (20 + i)) adV (SA sz) U U.heap ∧ va_Z "java/lang/String" "COMPACT_STRINGS" "Z" (.int 1) (SA sz) U U.heap ∧ ∃ v, (v = .null ∨ ∃ a, v = .ref a) ∧ va_Z "jdk/internal/util/Preconditions" "SIOOBE_FORMATTER" "Ljava/util/function/BiFunction;" v (SA sz) U U.heap
theorem SC.to {ka adV : Nat → Nat} {sz : Nat} {s U : State} {H : Heap} {locs : List Loc} (h : SC ka adV sz s) (hS : va_S (SA sz) s.heap H locs) (hW : s.WarmedH U.vm) (hU : U.heap = H) : SC ka adV H.size U := by
  obtain ⟨h0, h1, h2, v, h3, h4⟩ := h
  have hB : ∀ q, SA H.size q → SA sz q := fun q hq => Nat.le_trans (by rw [← h0]; exact hS.1) hq
  unfold SC
  rw [hU]
  exact ⟨rfl, ((h1.kept hS.2.1).moved hW.alike).narrow hB, ((h2.kept hS.2.1).moved hW.alike).narrow hB, v, h3, ((h4.kept hS.2.1).moved hW.alike).narrow hB⟩
theorem SC_blind {ka adV : Nat → Nat} {sz : Nat} {av : List Value} : FrameBlind (va_Pc av (SC ka adV sz)) := by
  intro a U g mk h
  obtain ⟨h0, h1, h2, h3, v, h4, h5⟩ := h
  have ha : U.vm.Alike (U.calling g mk a).vm := Vm.Alike.refl U.vm
  exact ⟨h0, h1, vk_S.moved (u := U) (U := U.calling g mk a) ha h2, va_Z.moved (u := U) (U := U.calling g mk a) ha h3, v, h4, va_Z.moved (u := U) (U := U.calling g mk a) ha h5⟩
def QI (v : Int32) (sz : Nat) : Array Value → State → Outcome → State → Prop := va_Qi (S := Unit) (fun r _ => r = v) (fun _ _ => True) (SA sz)
theorem sg1 : Cond.fieldLink jS 38 jS "COMPACT_STRINGS" "Z" ∈ GW := by decide +kernel
theorem sg2 : Cond.fieldLink jS 15 jS "coder" "B" ∈ GW := by decide +kernel
theorem sg3 : Cond.fieldLink jS 9 jS "value" "[B" ∈ GW := by decide +kernel
theorem sg4 : Cond.fieldLink jS 1053 jP "SIOOBE_FORMATTER" "Ljava/util/function/BiFunction;" ∈ GW := by decide +kernel
section Str
variable {l : Launch} {ka adV : Nat → Nat}
theorem s_coder {n : Nat} (hn : n < 5) (sz d : Nat) : Met l yCo (Cond.code yCo prog_22_method_152_code 1 (some .byte) :: GW) (rmD d 0 0) (va_Pc [.ref (ka (20 + n))] (SC ka adV sz)) (QI 0 sz) 0 0 (SA sz) := by
  refine my_ofW (cc := prog_22_method_152_code) (maxL := 1) (ret := some .byte) (ws' := GW) (by decide +kernel) rfl ?_
  intro p en s m args below meth c s₁ B hml hv
  obtain ⟨rfl, hsz, hstr, hcs, -⟩ := hv
  have hts0 := atoms_spec (ws := Cond.code yCo prog_22_method_152_code 1 (some .byte) :: GW) B.pre
  have hts : ∀ w ∈ GW, w.before ([.ref (ka (20 + n))] : List Value).toArray s = true := fun w hw => hts0 w (List.mem_cons_of_mem _ hw)
  have hown : s.vm.findClass jS = some m.cls := findClass_of_methodNamed (x := yCo) B.named
  have hS : va_S (SA sz) s.heap s.heap [] := va_S.rf
  rw [lg_entry_eq]
  refine va_gets (C := jS) (ref := jS) B.exec B.bytes hcs hS hown (hts _ sg1) (fun _ h => h) (show decode prog_22_method_152_code 0 = .ok (.getstatic 38, 3) by decide +kernel) ?_
  refine lv_if_eq (tgt := 13) B.exec B.bytes (show decode prog_22_method_152_code 3 = .ok (.ifCond .eq 10, 3) by decide +kernel) rfl (fun h => absurd h (by decide)) (fun _ => ?_)
  refine lv_aload_n (i := 0) (x := ka (20 + n)) B.exec B.bytes (show decode prog_22_method_152_code 6 = .ok (.aload_n 0, 1) by decide +kernel) rfl rfl ?_
  refine vk_getf B.exec B.bytes (hstr.1 n hn).2.1 hS hown (hts _ sg2) (fun _ h => h) (show decode prog_22_method_152_code 7 = .ok (.getfield 15, 3) by decide +kernel) ?_
  refine lv_goto (tgt := 14) B.exec B.bytes (show decode prog_22_method_152_code 10 = .ok (.goto 4, 3) by decide +kernel) rfl ?_
  exact W.zret B.exec B.bytes B.returns rfl (fun t ht hW => ⟨⟨0, (), rfl, rfl, trivial⟩, hS.F ht⟩) (fun q hq => hS.2.2 q hq) (show decode prog_22_method_152_code 14 = .ok (.ireturn, 1) by decide +kernel) (hlocks := B.notSynchronized)
theorem s_isl {n : Nat} (hn : n < 5) (sz d : Nat) : Met l yIL (Cond.code yIL prog_22_method_154_code 1 (some .boolean) :: GW) (rmD d 0 0) (va_Pc [.ref (ka (20 + n))] (SC ka adV sz)) (QI 1 sz) 0 0 (SA sz) := by
  refine my_ofW (cc := prog_22_method_154_code) (maxL := 1) (ret := some .boolean) (ws' := GW) (by decide +kernel) rfl ?_
  intro p en s m args below meth c s₁ B hml hv
  obtain ⟨rfl, hsz, hstr, hcs, -⟩ := hv
  have hts0 := atoms_spec (ws := Cond.code yIL prog_22_method_154_code 1 (some .boolean) :: GW) B.pre
  have hts : ∀ w ∈ GW, w.before ([.ref (ka (20 + n))] : List Value).toArray s = true := fun w hw => hts0 w (List.mem_cons_of_mem _ hw)
  have hown : s.vm.findClass jS = some m.cls := findClass_of_methodNamed (x := yIL) B.named
  have hS : va_S (SA sz) s.heap s.heap [] := va_S.rf
  rw [lg_entry_eq]
  refine va_gets (C := jS) (ref := jS) B.exec B.bytes hcs hS hown (hts _ sg1) (fun _ h => h) (show decode prog_22_method_154_code 0 = .ok (.getstatic 38, 3) by decide +kernel) ?_
  refine lv_if_eq (tgt := 17) B.exec B.bytes (show decode prog_22_method_154_code 3 = .ok (.ifCond .eq 14, 3) by decide +kernel) rfl (fun h => absurd h (by decide)) (fun _ => ?_)
  refine lv_aload_n (i := 0) (x := ka (20 + n)) B.exec B.bytes (show decode prog_22_method_154_code 6 = .ok (.aload_n 0, 1) by decide +kernel) rfl rfl ?_
  refine vk_getf B.exec B.bytes (hstr.1 n hn).2.1 hS hown (hts _ sg2) (fun _ h => h) (show decode prog_22_method_154_code 7 = .ok (.getfield 15, 3) by decide +kernel) ?_
  refine lv_if_ne (tgt := 17) B.exec B.bytes (show decode prog_22_method_154_code 10 = .ok (.ifCond .ne 7, 3) by decide +kernel) rfl (fun h => absurd rfl h) (fun _ => ?_)
  refine lv_iconst B.exec B.bytes (show decode prog_22_method_154_code 13 = .ok (.iconst 1, 1) by decide +kernel) (v := 1) rfl ?_
  refine lv_goto (tgt := 18) B.exec B.bytes (show decode prog_22_method_154_code 14 = .ok (.goto 4, 3) by decide +kernel) rfl ?_
  exact W.zret B.exec B.bytes B.returns rfl (fun t ht hW => ⟨⟨1, (), rfl, rfl, trivial⟩, hS.F ht⟩) (fun q hq => hS.2.2 q hq) (show decode prog_22_method_154_code 18 = .ok (.ireturn, 1) by decide +kernel) (hlocks := B.notSynchronized)
theorem s_pre {i n : Int32} (h0 : ¬ i < 0) (h1 : i < n) {v : Value} (hv : v = .null ∨ ∃ a, v = .ref a) (sz d : Nat) : Met l yPI (Cond.code yPI prog_30_method_11_code 3 (some .int) :: GW) (rmD d 0 0) (va_Pc [.int i, .int n, v] (fun U => U.heap.size = sz)) (QI i sz) 0 0 (SA sz) := by
  refine my_ofW (cc := prog_30_method_11_code) (maxL := 3) (ret := some .int) (ws' := GW) (by decide +kernel) rfl ?_
  intro p en s m args below meth c s₁ B hml hv2
  obtain ⟨rfl, hsz⟩ := hv2
  have hS : va_S (SA sz) s.heap s.heap [] := va_S.rf
  have hl0 : ∃ ls : Array Slot, entryFrame m ([.int i, .int n, v] : List Value).toArray 3 = F0 m 0 ls [] ∧ ls[0]? = some (.val (.int i)) ∧ ls[1]? = some (.val (.int n)) := by
    rcases hv with rfl | ⟨a, rfl⟩
    · exact ⟨_, by rw [lg_entry_eq], rfl, rfl⟩
    · exact ⟨_, by rw [lg_entry_eq], rfl, rfl⟩
  obtain ⟨ls, el, l0, l1⟩ := hl0
  rw [el]
  refine lv_iload_n (i := 0) (x := i) B.exec B.bytes (show decode prog_30_method_11_code 0 = .ok (.iload_n 0, 1) by decide +kernel) rfl l0 ?_
  refine lv_if_lt (tgt := 9) B.exec B.bytes (show decode prog_30_method_11_code 1 = .ok (.ifCond .lt 8, 3) by decide +kernel) rfl (fun h => absurd h h0) (fun _ => ?_)
  refine lv_iload_n (i := 0) (x := i) B.exec B.bytes (show decode prog_30_method_11_code 4 = .ok (.iload_n 0, 1) by decide +kernel) rfl l0 ?_
  refine lv_iload_n (i := 1) (x := n) B.exec B.bytes (show decode prog_30_method_11_code 5 = .ok (.iload_n 1, 1) by decide +kernel) rfl l1 ?_
  refine lv_icmp_lt (tgt := 16) B.exec B.bytes (show decode prog_30_method_11_code 6 = .ok (.if_icmp .lt 10, 3) by decide +kernel) rfl (fun _ => ?_) (fun h => absurd h1 h)
  refine lv_iload_n (i := 0) (x := i) B.exec B.bytes (show decode prog_30_method_11_code 16 = .ok (.iload_n 0, 1) by decide +kernel) rfl l0 ?_
  exact W.iret B.exec B.bytes B.returns (fun t ht hW => ⟨⟨i, (), rfl, rfl, trivial⟩, hS.F ht⟩) (fun q hq => hS.2.2 q hq) (show decode prog_30_method_11_code 17 = .ok (.ireturn, 1) by decide +kernel) (hlocks := B.notSynchronized)
theorem sz_blind {av : List Value} {sz : Nat} : FrameBlind (va_Pc av (fun U : State => U.heap.size = sz)) := fun a U g mk h => h
theorem sg5 : Cond.methodLink jS 1059 yPI ∈ GW ∧ Cond.static yPI ∈ GW ∧ Cond.initialized jP ∈ GW ∧ Cond.code yPI prog_30_method_11_code 3 (some .int) ∈ GW := by decide +kernel
theorem sg6 : Cond.methodLink jL 9 yCI ∈ GW ∧ Cond.static yCI ∈ GW ∧ Cond.initialized jS ∈ GW ∧ Cond.code yCI prog_22_method_155_code 2 none ∈ GW := by decide +kernel
theorem sg7 : Cond.methodLink jS 495 yLC ∈ GW ∧ Cond.static yLC ∈ GW ∧ Cond.initialized jL ∈ GW ∧ Cond.code yLC prog_23_method_2_code 2 (some .char) ∈ GW := by decide +kernel
theorem sg8 : Cond.methodLink jS 335 yCo ∈ GW ∧ Cond.instanceMethod yCo ∈ GW ∧ Cond.selects jS yCo yCo ∈ GW ∧ Cond.initialized jS ∈ GW ∧ Cond.code yCo prog_22_method_152_code 1 (some .byte) ∈ GW := by decide +kernel
theorem sg9 : Cond.methodLink jS 492 yIL ∈ GW ∧ Cond.instanceMethod yIL ∈ GW ∧ Cond.selects jS yIL yIL ∈ GW ∧ Cond.initialized jS ∈ GW ∧ Cond.code yIL prog_22_method_154_code 1 (some .boolean) ∈ GW := by decide +kernel
theorem gS {own : String} {i : Nat} {y : MethodName} {c : Cond} (h1 : Cond.methodLink own i y ∈ GW) (h2 : Cond.static y ∈ GW) (h3 : Cond.initialized y.cls ∈ GW) (h4 : c ∈ GW) : GoodIn GW (va_wsS own i y (c :: GW)) := good_gw (fun w hw => by
  rcases List.mem_append.mp hw with h | h
  · simp only [List.mem_cons, List.not_mem_nil, or_false] at h
    rcases h with h | h | h <;> rw [h]
    · exact h1
    · exact h2
    · exact h3
  · rcases List.mem_cons.mp h with h | h
    · rw [h]; exact h4
    · exact h)
theorem gV {own C : String} {i : Nat} {y : MethodName} {c : Cond} (h1 : Cond.methodLink own i y ∈ GW) (h2 : Cond.instanceMethod y ∈ GW) (h3 : Cond.selects C y y ∈ GW) (h5 : Cond.initialized C ∈ GW) (h4 : c ∈ GW) : GoodIn GW (wsV own i C y (c :: GW)) := good_gw (fun w hw => by
  rcases List.mem_append.mp hw with h | h
  · simp only [List.mem_cons, List.not_mem_nil, or_false] at h
    rcases h with h | h | h | h <;> rw [h]
    · exact h1
    · exact h2
    · exact h3
    · exact h5
  · rcases List.mem_cons.mp h with h | h
    · rw [h]; exact h4
    · exact h)
theorem s_chk {i n : Int32} (h0 : ¬ i < 0) (h1 : i < n) (sz d : Nat) : Met l yCI (Cond.code yCI prog_22_method_155_code 2 none :: GW) (rmD (d + 1) 0 0) (va_Pc [.int i, .int n] (SC ka adV sz)) (va_Qv (S := Unit) (fun _ => True) (fun _ _ => True) (SA sz)) 0 0 (SA sz) := by
  refine my_ofW (cc := prog_22_method_155_code) (maxL := 2) (ret := none) (ws' := GW) (by decide +kernel) rfl ?_
  intro p en s m args below meth c s₁ B hml hv
  obtain ⟨rfl, hsz, hstr, hcs, v, hv, hvz⟩ := hv
  have hts0 := atoms_spec (ws := Cond.code yCI prog_22_method_155_code 2 none :: GW) B.pre
  have hts : ∀ w ∈ GW, w.before ([.int i, .int n] : List Value).toArray s = true := fun w hw => hts0 w (List.mem_cons_of_mem _ hw)
  have hown : s.vm.findClass jS = some m.cls := findClass_of_methodNamed (x := yCI) B.named
  have hS : va_S (SA sz) s.heap s.heap [] := va_S.rf
  obtain ⟨ls, el, l0, l1, lz⟩ : ∃ ls : Array Slot, entryFrame m ([.int i, .int n] : List Value).toArray 2 = F0 m 0 ls [] ∧ ls[0]? = some (.val (.int i)) ∧ ls[1]? = some (.val (.int n)) ∧ ls.size = 2 := ⟨_, by rw [lg_entry_eq], rfl, rfl, rfl⟩
  rw [el]
  refine lv_iload_n (i := 0) (x := i) B.exec B.bytes (show decode prog_22_method_155_code 0 = .ok (.iload_n 0, 1) by decide +kernel) rfl l0 ?_
  refine lv_iload_n (i := 1) (x := n) B.exec B.bytes (show decode prog_22_method_155_code 1 = .ok (.iload_n 1, 1) by decide +kernel) rfl l1 ?_
  refine va_gets (C := jP) (ref := jP) B.exec B.bytes hvz hS hown (hts _ sg4) (fun _ h => h) (show decode prog_22_method_155_code 2 = .ok (.getstatic 1053, 3) by decide +kernel) ?_
  have M := s_pre (l := l) h0 h1 hv s.heap.size d
  have key := va_runS (As := [.int i, .int n, v]) (rest := []) (g := F0 m (0 + 1 + 1 + 3) ls [v, .int n, .int i]) (cells := 0) (slots := 0) (locs := []) (below := below) (e := en) (meth := meth) (R := rmD (d + 1) 0 0) (H := s.heap) (p := p) ⟨B.exec, B.bytes, hml, hown, hts⟩ M (va_cwS 3 hts (gS sg5.1 sg5.2.1 sg5.2.2.1 sg5.2.2.2) rfl rfl rfl (by decide +kernel) ⟨by show d + 1 ≤ d + 1; omega, by show 8 + (3 + 11) + 60 * d ≤ 60 * (d + 1); omega⟩) ⟨sz_blind, fun U hU hW => ⟨rfl, by show U.heap.size = _; rw [hU]⟩⟩ rfl rfl lz rfl (lv_room (Nat.le_of_ble_eq_true rfl)) (show decode prog_22_method_155_code 5 = .ok (.invokestatic 1059, 3) by decide +kernel) ⟨Nat.le_refl _, Nat.le_refl _⟩
  unfold QI at key
  refine va_calli (A0 := SA sz) (H0 := s.heap) key hS (fun q _ h => by show sz ≤ q; rw [← hsz]; exact h) (fun q h => by show sz ≤ q; rw [← hsz]; exact h) ?_
  intro r u t H1 locs1 ht hal hr _ hz1 hk1 hS1
  refine lv_pop B.exec B.bytes (show decode prog_22_method_155_code 8 = .ok (.pop, 1) by decide +kernel) rfl ?_
  exact W.vret B.exec B.bytes B.returns (fun t ht hW => ⟨⟨(), rfl, trivial, trivial⟩, hS1.F ht⟩) (fun q hq => hS1.2.2 q hq) (show decode prog_22_method_155_code 9 = .ok (.return_, 1) by decide +kernel) (hlocks := B.notSynchronized)
def chF (n j : Nat) : Int32 := (strB.getD n []).getD j 0
theorem ch_all : ∀ n, n < 5 → ∀ j, j < strN.getD n 0 → (¬ nI j < 0 ∧ nI j < Int32.ofNat (strN.getD n 0) ∧ (nI j).toNatClampNeg = j ∧ ((chF n j &&& 255).toUInt32 % 65536).toInt32 = chF n j ∧ 0 ≤ (chF n j).toInt ∧ (chF n j).toInt < 65536) := by decide +kernel
theorem ch_nar : ∀ n, n < 5 → ∀ j, j < strN.getD n 0 → narrow .char (.int (chF n j)) = .int (chF n j) := by decide +kernel
theorem len_all : ∀ n, n < 5 → (nI (strN.getD n 0)) >>> ((0 : Int32) &&& 31) = nI (strN.getD n 0) ∧ Int32.ofNat (strN.getD n 0) = nI (strN.getD n 0) := by decide +kernel
theorem s_lc {n j : Nat} (hn : n < 5) (hj : j < strN.getD n 0) (sz d : Nat) : Met l yLC (Cond.code yLC prog_23_method_2_code 2 (some .char) :: GW) (rmD (d + 2) 0 0) (va_Pc [.ref (adV n), .int (nI j)] (SC ka adV sz)) (QI (chF n j) sz) 0 0 (SA sz) := by
  obtain ⟨c1, c2, c3, c4, -, -⟩ := ch_all n hn j hj
  refine my_ofW (cc := prog_23_method_2_code) (maxL := 2) (ret := some .char) (ws' := GW) (by decide +kernel) rfl ?_
  intro p en s m args below meth c s₁ B hml hv
  obtain ⟨rfl, hSC⟩ := hv
  obtain ⟨hsz, hstr, hcs, v, hv, hvz⟩ := id hSC
  have hts0 := atoms_spec (ws := Cond.code yLC prog_23_method_2_code 2 (some .char) :: GW) B.pre
  have hts : ∀ w ∈ GW, w.before ([.ref (adV n), .int (nI j)] : List Value).toArray s = true := fun w hw => hts0 w (List.mem_cons_of_mem _ hw)
  have hown : s.vm.findClass jL = some m.cls := findClass_of_methodNamed (x := yLC) B.named
  have hS : va_S (SA sz) s.heap s.heap [] := va_S.rf
  obtain ⟨ls, el, l0, l1, lz⟩ : ∃ ls : Array Slot, entryFrame m ([.ref (adV n), .int (nI j)] : List Value).toArray 2 = F0 m 0 ls [] ∧ ls[0]? = some (.val (.ref (adV n))) ∧ ls[1]? = some (.val (.int (nI j))) ∧ ls.size = 2 := ⟨_, by rw [lg_entry_eq], rfl, rfl, rfl⟩
  rw [el]
  refine lv_iload_n (i := 1) (x := nI j) B.exec B.bytes (show decode prog_23_method_2_code 0 = .ok (.iload_n 1, 1) by decide +kernel) rfl l1 ?_
  refine lv_aload_n (i := 0) (x := adV n) B.exec B.bytes (show decode prog_23_method_2_code 1 = .ok (.aload_n 0, 1) by decide +kernel) rfl l0 ?_
  refine va_tlen B.exec B.bytes (hstr.1 n hn).2.2.2 hS rfl (show decode prog_23_method_2_code 2 = .ok (.arraylength, 1) by decide +kernel) ?_
  have M := s_chk (l := l) (ka := ka) (adV := adV) c1 c2 s.heap.size d
  have key := va_runS (As := [.int (nI j), .int (Int32.ofNat (strN.getD n 0))]) (rest := []) (g := F0 m (0 + 1 + 1 + 1) ls [.int (Int32.ofNat (strN.getD n 0)), .int (nI j)]) (cells := 0) (slots := 0) (locs := []) (below := below) (e := en) (meth := meth) (R := rmD (d + 2) 0 0) (H := s.heap) (p := p) ⟨B.exec, B.bytes, hml, hown, hts⟩ M (va_cwS 2 hts (gS sg6.1 sg6.2.1 sg6.2.2.1 sg6.2.2.2) rfl rfl rfl (by decide +kernel) ⟨by show d + 1 + 1 ≤ d + 2; omega, by show 8 + (2 + 11) + 60 * (d + 1) ≤ 60 * (d + 2); omega⟩) ⟨SC_blind, fun U hU hW => ⟨rfl, hSC.to hS hW hU⟩⟩ rfl rfl lz rfl (lv_room (Nat.le_of_ble_eq_true rfl)) (show decode prog_23_method_2_code 3 = .ok (.invokestatic 9, 3) by decide +kernel) ⟨Nat.le_refl _, Nat.le_refl _⟩
  refine va_callv (A0 := SA sz) (H0 := s.heap) key hS (fun q _ h => by show sz ≤ q; rw [← hsz]; exact h) (fun q h => by show sz ≤ q; rw [← hsz]; exact h) ?_
  intro u t H1 locs1 ht hal _ _ hz1 hk1 hS1
  refine lv_aload_n (i := 0) (x := adV n) B.exec B.bytes (show decode prog_23_method_2_code 6 = .ok (.aload_n 0, 1) by decide +kernel) rfl l0 ?_
  refine lv_iload_n (i := 1) (x := nI j) B.exec B.bytes (show decode prog_23_method_2_code 7 = .ok (.iload_n 1, 1) by decide +kernel) rfl l1 ?_
  refine va_tb B.exec B.bytes (hstr.1 n hn).2.2.2 hS1 (i := nI j) (fun h => h.elim c1 (fun h => by rw [c3] at h; omega)) (v := .int (chF n j)) (by rw [c3]; rfl) (show decode prog_23_method_2_code 8 = .ok (.baload, 1) by decide +kernel) ?_
  refine lv_sipush B.exec B.bytes (show decode prog_23_method_2_code 9 = .ok (.sipush 255, 3) by decide +kernel) (v := 255) rfl ?_
  refine lv_iand B.exec B.bytes (show decode prog_23_method_2_code 12 = .ok (.iand, 1) by decide +kernel) ?_
  refine lv_i2c B.exec B.bytes (show decode prog_23_method_2_code 13 = .ok (.i2c, 1) by decide +kernel) c4 ?_
  exact W.zret B.exec B.bytes B.returns (ch_nar n hn j hj) (fun t ht hW => ⟨⟨_, (), rfl, rfl, trivial⟩, hS1.F ht⟩) (fun q hq => hS1.2.2 q hq) (show decode prog_23_method_2_code 14 = .ok (.ireturn, 1) by decide +kernel) (hlocks := B.notSynchronized)
end Str
