/-! length and charAt, and every call of the pure machine is met -/
section StrM
variable {l : Launch} {K : PK} {D : va_G} {ka : Nat → Nat} {d n : Nat} {ws : va_W} {tys : List (ClassId × FieldType)} {sz : Nat} {g : PG}
theorem pq_end {s t : State} {H1 : Heap} {locs1 : List Loc} {v : Value} {w : Value} {A : Array Value} (hsz : s.heap.size = sz) (hP : va_P D classes ws s.heap) (hK : va_K D classes tys s) (hD : va_D (va_A ws sz) ws) (hH : HRel ka ws tys g.1) (hS1 : va_S (SA sz) s.heap H1 locs1) (hv : VRel ka ws v w) (ht : t.heap = H1) (hW : s.WarmedH t.vm) : PQ D ka ws (va_A ws sz) (some v) g A s (.returned (some w)) t := by
  refine ⟨⟨ws, tys, some w, rfl, hv, ?_, va_K.moved hW.alike hK, hD, hH, Ext.rf⟩, ?_, ?_⟩
  · rw [ht]
    exact hP.kept (fun k9 z hz => hS1.2.1 z.1 ((hP k9 z hz).lt) (fun h => by have h1 := (hP k9 z hz).lt; have h2 : sz ≤ z.1 := h; omega))
  · rw [ht]; exact hS1.1
  · intro q h1 h2
    rw [ht]
    exact hS1.2.1 q h1 (fun h => h2 (Or.inr h))
theorem sc_of {A : Nat → Prop} {s : State} (hsz : s.heap.size = sz) (hA : ∀ q, SA sz q → A q) (hCE : CE K ka A s s.heap) : ∃ adV, SC ka adV sz s := by
  obtain ⟨-, -, -, -, -, ⟨adV, h6⟩, h7, v, h8, h9⟩ := hCE
  exact ⟨adV, hsz, h6.narrow hA, h7.narrow hA, v, h8, h9.narrow hA⟩
theorem s_len (hn : n < 5) (hd : 1 ≤ d) (hH : HRel ka ws tys g.1) : Met l (miN 243) (mws 243) (rmD (d + 1) 0 0) (va_Pc [.ref (ka (20 + n))] (PP K D ka ws tys sz)) (PQ D ka ws (va_A ws sz) (some (.int (nI (strN.getD n 0)))) g) 0 0 (va_A ws sz) := by
  have hm9 : mrec 243 = (miN 243, (mrec 243).2.1, 1, some .int, 0) ∨ (mrec 243).2.2.1 = 1 ∧ (mrec 243).2.2.2.1 = some .int := Or.inr ⟨rfl, rfl⟩
  refine my_ofW (cc := byAt (mrec 243).2.1) (maxL := 1) (ret := some .int) (ws' := GW) (by decide +kernel) rfl ?_
  intro p en s m args below meth c s₁ B hml hv
  obtain ⟨rfl, hsz, hP, hK, hD, hCE, hNW⟩ := hv
  obtain ⟨adV, hSC⟩ := sc_of hsz (fun q h => Or.inr h) hCE
  obtain ⟨-, hstr, -⟩ := id hSC
  have hts0 := atoms_spec (ws := mws 243) B.pre
  have hts : ∀ w ∈ GW, w.before ([.ref (ka (20 + n))] : List Value).toArray s = true := fun w hw => hts0 w (List.mem_cons_of_mem _ hw)
  have hown : s.vm.findClass jS = some m.cls := findClass_of_methodNamed (x := miN 243) B.named
  have hS : va_S (SA sz) s.heap s.heap [] := va_S.rf
  obtain ⟨ls, el, l0, lz⟩ : ∃ ls : Array Slot, entryFrame m ([.ref (ka (20 + n))] : List Value).toArray 1 = F0 m 0 ls [] ∧ ls[0]? = some (.val (.ref (ka (20 + n)))) ∧ ls.size = 1 := ⟨_, by rw [lg_entry_eq], rfl, rfl⟩
  rw [el]
  refine lv_aload_n (i := 0) (x := ka (20 + n)) B.exec B.bytes (show decode (byAt (mrec 243).2.1) 0 = .ok (.aload_n 0, 1) by decide +kernel) rfl l0 ?_
  refine vk_getf B.exec B.bytes (hstr.1 n hn).2.2.1 hS hown (hts _ sg3) (fun _ h => h) (show decode (byAt (mrec 243).2.1) 1 = .ok (.getfield 9, 3) by decide +kernel) ?_
  refine va_tlen B.exec B.bytes (hstr.1 n hn).2.2.2 hS (len_all n hn).2 (show decode (byAt (mrec 243).2.1) 4 = .ok (.arraylength, 1) by decide +kernel) ?_
  refine lv_aload_n (i := 0) (x := ka (20 + n)) B.exec B.bytes (show decode (byAt (mrec 243).2.1) 5 = .ok (.aload_n 0, 1) by decide +kernel) rfl l0 ?_
  have M := s_coder (l := l) (ka := ka) (adV := adV) hn s.heap.size d
  have hrv := vk_recv (i := n) hstr hn hS
  have key := va_runV (C := jS) (As := []) (rest := [.int (nI (strN.getD n 0))]) (b := ka (20 + n)) (g := F0 m (0 + 1 + 3 + 1 + 1) ls [.ref (ka (20 + n)), .int (nI (strN.getD n 0))]) (cells := 0) (slots := 0) (locs := []) (below := below) (e := en) (meth := meth) (R := rmD (d + 1) 0 0) (H := s.heap) (p := p) ⟨B.exec, B.bytes, hml, hown, hts⟩ M (cwV 0 hts (gV sg8.1 sg8.2.1 sg8.2.2.1 sg8.2.2.2.1 sg8.2.2.2.2) rfl rfl rfl (by decide +kernel) ⟨by show d + 1 ≤ d + 1; omega, by show 8 + (1 + 11) + 60 * d ≤ 60 * (d + 1); omega⟩) ⟨SC_blind, hrv, fun U hU hW => ⟨rfl, hSC.to hS hW hU⟩⟩ rfl rfl lz rfl (lv_room (Nat.le_of_ble_eq_true rfl)) (show decode (byAt (mrec 243).2.1) 6 = .ok (.invokevirtual 335, 3) by decide +kernel) ⟨Nat.le_refl _, Nat.le_refl _⟩
  unfold QI at key
  refine va_calli (A0 := SA sz) (H0 := s.heap) key hS (fun q _ h => by show sz ≤ q; rw [← hsz]; exact h) (fun q h => by show sz ≤ q; rw [← hsz]; exact h) ?_
  intro r u t H1 locs1 ht hal hr _ hz1 hk1 hS1
  subst hr
  refine lv_ishr B.exec B.bytes (show decode (byAt (mrec 243).2.1) 9 = .ok (.ishr, 1) by decide +kernel) ?_
  exact W.iret B.exec B.bytes B.returns (fun t ht hW => pq_end hsz hP hK hD.self hH hS1 (by rw [(len_all n hn).1]; rfl) ht hW) (fun q hq => Or.inr (hS1.2.2 q hq)) (show decode (byAt (mrec 243).2.1) 10 = .ok (.ireturn, 1) by decide +kernel) (hlocks := B.notSynchronized)
theorem s_chr {j : Nat} (hn : n < 5) (hj : j < strN.getD n 0) (hd : 3 ≤ d) (hH : HRel ka ws tys g.1) : Met l (miN 244) (mws 244) (rmD (d + 1) 0 0) (va_Pc [.ref (ka (20 + n)), .int (nI j)] (PP K D ka ws tys sz)) (PQ D ka ws (va_A ws sz) (some (.int (chF n j))) g) 0 0 (va_A ws sz) := by
  obtain ⟨d, rfl⟩ : ∃ d', d = d' + 2 := ⟨d - 2, by omega⟩
  refine my_ofW (cc := byAt (mrec 244).2.1) (maxL := 2) (ret := some .char) (ws' := GW) (by decide +kernel) rfl ?_
  intro p en s m args below meth c s₁ B hml hv
  obtain ⟨rfl, hsz, hP, hK, hD, hCE, hNW⟩ := hv
  obtain ⟨adV, hSC⟩ := sc_of hsz (fun q h => Or.inr h) hCE
  obtain ⟨-, hstr, -⟩ := id hSC
  have hts0 := atoms_spec (ws := mws 244) B.pre
  have hts : ∀ w ∈ GW, w.before ([.ref (ka (20 + n)), .int (nI j)] : List Value).toArray s = true := fun w hw => hts0 w (List.mem_cons_of_mem _ hw)
  have hown : s.vm.findClass jS = some m.cls := findClass_of_methodNamed (x := miN 244) B.named
  have hS : va_S (SA sz) s.heap s.heap [] := va_S.rf
  obtain ⟨ls, el, l0, l1, lz⟩ : ∃ ls : Array Slot, entryFrame m ([.ref (ka (20 + n)), .int (nI j)] : List Value).toArray 2 = F0 m 0 ls [] ∧ ls[0]? = some (.val (.ref (ka (20 + n)))) ∧ ls[1]? = some (.val (.int (nI j))) ∧ ls.size = 2 := ⟨_, by rw [lg_entry_eq], rfl, rfl, rfl⟩
  rw [el]
  refine lv_aload_n (i := 0) (x := ka (20 + n)) B.exec B.bytes (show decode (byAt (mrec 244).2.1) 0 = .ok (.aload_n 0, 1) by decide +kernel) rfl l0 ?_
  have M := s_isl (l := l) (ka := ka) (adV := adV) hn s.heap.size (d + 2)
  have hrv := vk_recv (i := n) hstr hn hS
  have key := va_runV (C := jS) (As := []) (rest := []) (b := ka (20 + n)) (g := F0 m (0 + 1) ls [.ref (ka (20 + n))]) (cells := 0) (slots := 0) (locs := []) (below := below) (e := en) (meth := meth) (R := rmD (d + 2 + 1) 0 0) (H := s.heap) (p := p) ⟨B.exec, B.bytes, hml, hown, hts⟩ M (cwV 0 hts (gV sg9.1 sg9.2.1 sg9.2.2.1 sg9.2.2.2.1 sg9.2.2.2.2) rfl rfl rfl (by decide +kernel) ⟨by show d + 2 + 1 ≤ d + 2 + 1; omega, by show 8 + (1 + 11) + 60 * (d + 2) ≤ 60 * (d + 2 + 1); omega⟩) ⟨SC_blind, hrv, fun U hU hW => ⟨rfl, hSC.to hS hW hU⟩⟩ rfl rfl lz rfl (lv_room (Nat.le_of_ble_eq_true rfl)) (show decode (byAt (mrec 244).2.1) 1 = .ok (.invokevirtual 492, 3) by decide +kernel) ⟨Nat.le_refl _, Nat.le_refl _⟩
  unfold QI at key
  refine va_calli (A0 := SA sz) (H0 := s.heap) key hS (fun q _ h => by show sz ≤ q; rw [← hsz]; exact h) (fun q h => by show sz ≤ q; rw [← hsz]; exact h) ?_
  intro r u t H1 locs1 ht hal hr _ hz1 hk1 hS1
  subst hr
  refine lv_if_eq (tgt := 16) B.exec B.bytes (show decode (byAt (mrec 244).2.1) 4 = .ok (.ifCond .eq 12, 3) by decide +kernel) rfl (fun h => absurd h (by decide)) (fun _ => ?_)
  refine lv_aload_n (i := 0) (x := ka (20 + n)) B.exec B.bytes (show decode (byAt (mrec 244).2.1) 7 = .ok (.aload_n 0, 1) by decide +kernel) rfl l0 ?_
  refine vk_getf B.exec B.bytes (hstr.1 n hn).2.2.1 hS1 hown (hts _ sg3) (fun _ h => h) (show decode (byAt (mrec 244).2.1) 8 = .ok (.getfield 9, 3) by decide +kernel) ?_
  refine lv_iload_n (i := 1) (x := nI j) B.exec B.bytes (show decode (byAt (mrec 244).2.1) 11 = .ok (.iload_n 1, 1) by decide +kernel) rfl l1 ?_
  have M2 := s_lc (l := l) (ka := ka) (adV := adV) hn hj H1.size d
  have key2 := va_runS (As := [.ref (adV n), .int (nI j)]) (rest := []) (g := F0 m (0 + 1 + 3 + 3 + 1 + 3 + 1) ls [.int (nI j), .ref (adV n)]) (cells := 0 + 0) (slots := 0 + 0) (locs := locs1) (below := below) (e := en) (meth := meth) (R := rmD (d + 2 + 1) 0 0) (H := H1) (p := p) ⟨B.exec, B.bytes, hml, hown, hts⟩ M2 (va_cwS 2 hts (gS sg7.1 sg7.2.1 sg7.2.2.1 sg7.2.2.2) rfl rfl rfl (by decide +kernel) ⟨by show d + 2 + 1 ≤ d + 2 + 1; omega, by show 8 + (2 + 11) + 60 * (d + 2) ≤ 60 * (d + 2 + 1); omega⟩) ⟨SC_blind, fun U hU hW => ⟨rfl, hSC.to hS1 hW hU⟩⟩ rfl rfl lz rfl (lv_room (Nat.le_of_ble_eq_true rfl)) (show decode (byAt (mrec 244).2.1) 12 = .ok (.invokestatic 495, 3) by decide +kernel) ⟨Nat.le_refl _, Nat.le_refl _⟩
  unfold QI at key2
  have hle : sz ≤ H1.size := by rw [← hsz]; exact hz1
  refine va_calli (A0 := SA sz) (H0 := s.heap) key2 hS1 (fun q _ h => Nat.le_trans hle h) (fun q h => Nat.le_trans hle h) ?_
  intro r u t H2 locs2 ht hal hr _ hz2 hk2 hS2
  subst hr
  exact W.zret B.exec B.bytes B.returns (ch_nar n hn j hj) (fun t ht hW => pq_end (v := .int (chF n j)) hsz hP hK hD.self hH hS2 rfl ht hW) (fun q hq => Or.inr (hS2.2.2 q hq)) (show decode (byAt (mrec 244).2.1) 15 = .ok (.ireturn, 1) by decide +kernel) (hlocks := B.notSynchronized)
end StrM
theorem str_met {l : Launch} {K : PK} {D : va_G} {ka : Nat → Nat} {d k : Nat} {as : List Value} {g : PG} {r : Option Value} {g' : PG} (h : StrR d k as g r g') : PMet l K D ka (d + 1) k as g r g' := by
  obtain ⟨rfl, h⟩ := h
  rcases h with ⟨rfl, hd, n, hn, rfl, rfl⟩ | ⟨rfl, hd, n, j, hn, hj, rfl, rfl⟩
  · refine ⟨mthL_ok _ (getD_mem_lt (by decide +kernel)), Nat.le_refl _, Nat.le_refl _, ?_⟩
    intro ws tys sz av hH hT
    obtain ⟨r1, e1, t1⟩ := hT.con
    have e2 := t1.nil
    subst e2 e1
    rw [Nat.sub_self, Nat.sub_self]
    exact s_len hn hd hH
  · refine ⟨mthL_ok _ (getD_mem_lt (by decide +kernel)), Nat.le_refl _, Nat.le_refl _, ?_⟩
    intro ws tys sz av hH hT
    obtain ⟨r1, e1, t1⟩ := hT.con
    obtain ⟨r2, e3, t2⟩ := t1.int
    have e2 := t2.nil
    subst e2 e3 e1
    rw [Nat.sub_self, Nat.sub_self]
    exact s_chr hn hj hd hH
theorem call_ok (l : Launch) (K : PK) (D : va_G) (ka : Nat → Nat) (d : Nat) : ∀ (k : Nat) (as : List Value) (g : PG) (r : Option Value) (g' : PG), CallR K d k as g r g' → PMet l K D ka d k as g r g' := by
  induction d with
  | zero => exact fun _ _ _ _ _ h => h.elim
  | succ d hO =>
    intro k as g r g' h
    rcases h with h | h
    · exact str_met h
    obtain ⟨hk, hlen, n, hrun⟩ := h
    have hmo : mOK (mrec k) := mthL_ok _ (getD_mem_lt hk)
    have hmono := run_mono (fun k as g rv g1 h => ⟨(hO k as g rv g1 h).2.1, (hO k as g rv g1 h).2.2.1⟩) n _ _ _ _ hrun
    exact ⟨hmo, hmono.1, hmono.2, fun ws tys sz av hH hT => call_body hO hmo (fun h => of_decide_eq_true h) (code_at hk) hlen hrun ws tys sz av hH hT⟩
