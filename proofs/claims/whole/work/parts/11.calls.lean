/-! calls and whole runs -/
def RRel (ka : Nat → Nat) (ws : va_W) : Option Value → Option Value → Prop
  | none, none => True
  | some v, some w => VRel ka ws v w
  | _, _ => False
def mrec (k : Nat) : MI := mthL.getD k mi0
def mws (k : Nat) : List Cond := Cond.code (miN k) (byAt (mrec k).2.1) (mrec k).2.2.1 (mrec k).2.2.2.1 :: GW
def rmD (d c s : Nat) : Room := { frames := d, cells := c, slots := s, locals := 60 * d }
def PP (K : PK) (D : va_G) (ka : Nat → Nat) (ws : va_W) (tys : List (ClassId × FieldType)) (sz : Nat) (U : State) : Prop := U.heap.size = sz ∧ va_P D classes ws U.heap ∧ va_K D classes tys U ∧ va_D (fun _ => True) ws ∧ CE K ka (va_A ws sz) U U.heap ∧ ∀ w ∈ NW, va_Nw w U
def PQ (D : va_G) (ka : Nat → Nat) (ws : va_W) (A : Nat → Prop) (r : Option Value) (g' : PG) : Array Value → State → Outcome → State → Prop := fun _ st oc t => (∃ ws' tys' v', oc = .returned v' ∧ RRel ka ws' r v' ∧ va_P D classes ws' t.heap ∧ va_K D classes tys' t ∧ va_D A ws' ∧ HRel ka ws' tys' g'.1 ∧ Ext ws ws') ∧ va_F A st t
/-- the contract that a pure call gives: at depth d method k, from as and g, ends with r and g' -/
def PMet (l : Launch) (K : PK) (D : va_G) (ka : Nat → Nat) (d k : Nat) (as : List Value) (g : PG) (r : Option Value) (g' : PG) : Prop :=
  mOK (mrec k) ∧ g.2.1 ≤ g'.2.1 ∧ g.2.2 ≤ g'.2.2 ∧ ∀ (ws : va_W) (tys : List (ClassId × FieldType)) (sz : Nat) (av : List Value), HRel ka ws tys g.1 → SRel ka ws as av → Met l (miN k) (mws k) (rmD d (g'.2.1 - g.2.1) (g'.2.2 - g.2.2)) (va_Pc av (PP K D ka ws tys sz)) (PQ D ka ws (va_A ws sz) r g') (g'.2.1 - g.2.1) (g'.2.2 - g.2.2) (va_A ws sz)
theorem good_gw {ws : List Cond} (h : ∀ w ∈ ws, w ∈ GW) : GoodIn GW ws := fun w hw => ⟨h w hw, good_of_word (List.mem_filter.mp (h w hw)).2⟩
theorem mws_gw {k : Nat} (h : mOK (mrec k)) : ∀ w ∈ mws k, w ∈ GW := fun w hw => by
  rcases List.mem_cons.mp hw with h1 | h1
  · rw [h1]; exact h.1
  · exact h1
theorem nw_warm {w : Cond} (hw : w ∈ NW) {s U : State} (hW : s.WarmedH U.vm) (h : va_Nw w s) : va_Nw w U := by
  have h1 := (List.mem_filter.mp hw).2
  cases w with
  | fieldLinkNest a b c d e f => exact va_Nw.warmF hW h
  | methodLinkNest a b c d => exact va_Nw.warmM hW h
  | _ => simp [isNest] at h1
theorem nw_same {w : Cond} (hw : w ∈ NW) {s U : State} (hv : s.vm = U.vm) (h : va_Nw w s) : va_Nw w U := by
  have h1 := (List.mem_filter.mp hw).2
  cases w with
  | fieldLinkNest a b c d e f => exact va_Nw.same rfl hv h
  | methodLinkNest a b c d => exact va_Nw.same rfl hv h
  | _ => simp [isNest] at h1
theorem CE.to {K : PK} {ka : Nat → Nat} {A B : Nat → Prop} {s U : State} {H : Heap} {locs : List Loc} (h : CE K ka A s s.heap) (hS : va_S A s.heap H locs) (hW : s.WarmedH U.vm) (hU : U.heap = H) (hB : ∀ q, B q → A q) : CE K ka B U U.heap := by
  obtain ⟨h1, h2, h3, h4, h5, ⟨adV, h6⟩, h7, v, h8, h9⟩ := h
  rw [hU]
  exact ⟨fun n C nm hn => (((h1 n C nm hn).kept hS.2.1).moved hW.alike).narrow hB, fun n N f hn => (((h2 n N f hn).kept hS.2.1).moved hW.alike).narrow hB, fun n o i t hn => (h3 n o i t hn).warm hW, h4.moved hW.alike, h5.moved hW.alike, ⟨adV, ((h6.kept hS.2.1).moved hW.alike).narrow hB⟩, ((h7.kept hS.2.1).moved hW.alike).narrow hB, v, h8, ((h9.kept hS.2.1).moved hW.alike).narrow hB⟩
theorem PP_blind {K : PK} {D : va_G} {ka : Nat → Nat} {ws : va_W} {tys : List (ClassId × FieldType)} {sz : Nat} {av : List Value} : FrameBlind (va_Pc av (PP K D ka ws tys sz)) := by
  intro a U g mk h
  obtain ⟨h0, h1, h2, h3, h4, ⟨c1, c2, c3, c4, c5, ⟨adV, c6⟩, c7, v8, c8, c9⟩, h6⟩ := h
  have ha : U.vm.Alike (U.calling g mk a).vm := Vm.Alike.refl U.vm
  exact ⟨h0, h1, h2, va_K.moved (u := U) (U := U.calling g mk a) ha h3, h4, ⟨fun n C nm hn => va_Z.moved (u := U) (U := U.calling g mk a) ha (c1 n C nm hn), fun n N f hn => va_T.moved (u := U) (U := U.calling g mk a) ha (c2 n N f hn), fun n o i t hn => vk_R.same (u := U) (U := U.calling g mk a) rfl (c3 n o i t hn), va_AO.moved (u := U) (U := U.calling g mk a) ha c4, va_AOA.moved (u := U) (U := U.calling g mk a) ha c5, ⟨adV, vk_S.moved (u := U) (U := U.calling g mk a) ha c6⟩, va_Z.moved (u := U) (U := U.calling g mk a) ha c7, v8, c8, va_Z.moved (u := U) (U := U.calling g mk a) ha c9⟩, fun w hw => nw_same hw (s := U) (U := U.calling g mk a) rfl (h6 w hw)⟩
section Calls
variable {p : Program} {l : Launch} {e : Env} {R : Room} {s : State} {m : MethodId} {args : Array Value} {below : List Frame} {meth : Method} {c : Code} {Q : State → Prop} {D : va_G} {A : Nat → Prop} {ka : Nat → Nat} {ws0 : va_W} {c0 s0 nL : Nat} {cc : ByteArray} {pc : Nat} {L : PL} {st : List Value} {g g1 : PG} {own : Nat} {ini : Bool} {K : PK} {d k n i : Nat} {rv : Option Value}
theorem my_call {H : Heap} {locs : List Loc} {cells slots mc ms : Nat} {ls : Array Slot} {st0 rest : List Value} {a : Array Value} {A1 : Nat → Prop} {ws : va_W} (hr : va_Run p l e R s m args below meth c H locs cells slots mc ms (F0 m pc ls st0) rest (PQ D ka ws A1 rv g1 a) A1) (hS : va_S A s.heap H locs) (hA : ∀ q, A1 q → A q)
    (kk : ∀ (ws' : va_W) (tys' : List (ClassId × FieldType)) (v' : Option Value) (H1 : Heap) (locs1 : List Loc), RRel ka ws' rv v' → va_P D classes ws' H1 → va_K D classes tys' s → va_D A ws' → va_S A s.heap H1 locs1 → HRel ka ws' tys' g1.1 → Ext ws ws' → W p l e R s m args below meth c H1 locs1 (cells + mc) (slots + ms) Q (F0 m (pc + 3) ls (v'.toList ++ rest))) : W p l e R s m args below meth c H locs cells slots Q (F0 m pc ls st0) := by
  intro T hT X
  obtain ⟨v, st₀, t, T', L1, h0, X', hL, e1, e2, ⟨⟨ws', tys', v', hv, q1, q2, q3, q4, q5, q6⟩, hz, hk⟩, st⟩ := hr T hT X
  cases hv
  rw [h0] at hz hk
  have hal : t.vm.Alike s.vm := by rw [← e2]; exact X'.warmed.alike.symm
  obtain ⟨t2, a1, b1⟩ := kk ws' tys' v T'.heap (locs ++ L1) q1 (by rw [e1]; exact q2) (va_K.moved hal q3) (q4.weaken (fun _ _ _ h => hA _ h))
    ⟨Nat.le_trans hS.1 (by rw [e1]; exact hz), fun q h1 h2 => by rw [e1, hk q (Nat.lt_of_lt_of_le h1 hS.1) (fun z => h2 (hA q z))]; exact hS.2.1 q h1 h2, fun q hq => by
      rcases List.mem_append.mp hq with h | h
      · exact hS.2.2 q h
      · exact hA _ (hL q h)⟩ q5 q6 T' rfl X'
  exact ⟨t2, st t2 a1, b1⟩
theorem RRel.stk {ws : va_W} {r v : Option Value} {a b : List Value} (h : RRel ka ws r v) (hs : SRel ka ws a b) : SRel ka ws (r.toList ++ a) (v.toList ++ b) := by
  cases r with
  | none => cases v with
    | none => exact hs
    | some w => exact h.elim
  | some x => cases v with
    | none => exact h.elim
    | some w => exact ⟨h, hs⟩
theorem pre_ok {H : Heap} {locs : List Loc} {ws : va_W} {tys : List (ClassId × FieldType)} {av : List Value} (hCE : CE K ka A s s.heap) (hnw : ∀ w ∈ NW, va_Nw w s) (hP : va_P D classes ws H) (hK : va_K D classes tys s) (hD : va_D A ws) (hS : va_S A s.heap H locs) (hB : ∀ q, va_A ws H.size q → A q) : ∀ U : State, U.heap = H → s.WarmedH U.vm → va_Pc av (PP K D ka ws tys H.size) av.toArray U := fun U hU hW => ⟨rfl, by rw [hU], by rw [hU]; exact hP, va_K.moved hW.alike hK, hD.weaken (fun _ _ _ _ => trivial), hCE.to hS hW hU hB, fun w hw => nw_warm hw hW (hnw w hw)⟩
theorem aA_ok {H : Heap} {locs : List Loc} {ws : va_W} (hA : ∀ q, s.heap.size ≤ q → A q) (hD : va_D A ws) (hS : va_S A s.heap H locs) : ∀ q, va_A ws H.size q → A q := by
  intro q hq
  rcases hq with ⟨k, E, h⟩ | h
  · exact hD.2 k (q, E) h
  · exact hA q (Nat.le_trans hS.1 h)
theorem w_callS (Ev : EnvOK p R s m args meth c cc own ini nL A ka K) (hRf : d + 1 ≤ R.frames) (hRl : 60 * (d + 1) ≤ R.locals) (hd : decode cc pc = .ok (.invokestatic i, 3)) (hp : pinvS own i = some (k, n)) (hlen : n ≤ st.length) (hw : pwords (st.drop n) ≤ 8) (hM : PMet l K D ka d k (st.take n).reverse g rv g1) (hroom : g1.2.1 ≤ c0 + R.cells ∧ g1.2.2 ≤ s0 + R.slots) (kk : PW p l e R s m args below meth c Q D A ka ws0 c0 s0 nL (pc + 3) L (rv.toList ++ st.drop n) g1) : PW p l e R s m args below meth c Q D A ka ws0 c0 s0 nL pc L st g := by
  obtain ⟨hx, hb, hml, hown, hts, hnw, hCE, hA, hin, hf, hlo⟩ := Ev
  obtain ⟨hmo, hm1, hm2, hMet⟩ := hM
  intro ws tys H locs ls st1 hP hK hD hS hH hL hT hE hc hs
  have hB := aA_ok hA hD hS
  have M := hMet ws tys H.size (st1.take n).reverse hH (hT.take n).rev
  obtain ⟨hlk, hst, hpn⟩ := pinvS_ok hp
  obtain ⟨w1, w2, w3, w4, w5, w6, w7⟩ := id hmo
  have hsz : ls.size = nL := by obtain ⟨-, lv, hlv, -⟩ := hL; exact hlv.1
  have hl1 : (st1.take n).reverse.length = n := by rw [List.length_reverse, List.length_take, hT.len]; omega
  have hstk : st1 = ((st1.take n).reverse).reverse ++ st1.drop n := by rw [List.reverse_reverse, List.take_append_drop]
  have hwd : ((st1.drop n).map fun v => v.category).sum ≤ 8 := by
    have := (hT.drop n).words
    unfold pwords at this hw
    omega
  have key : va_Run p l e R s m args below meth c H locs (g.2.1 - c0) (g.2.2 - s0) (g1.2.1 - g.2.1) (g1.2.2 - g.2.2) (F0 m pc ls st1) (st1.drop n) (PQ D ka ws (va_A ws H.size) rv g1 ((st1.take n).reverse).toArray) (va_A ws H.size) := by
    rcases hlk with h1 | ⟨xc, h1, h2⟩
    · exact va_runS (As := (st1.take n).reverse) (rest := st1.drop n) ⟨hx, hb, hml, hown, hts⟩ M (va_cwS n hts (good_gw (fun w hw => by
        rcases List.mem_append.mp hw with h3 | h3
        · simp only [List.mem_cons, List.not_mem_nil, or_false] at h3
          rcases h3 with h4 | h4 | h4 <;> rw [h4]
          · exact h1
          · exact hst
          · exact w2
        · exact mws_gw hmo w h3)) rfl rfl rfl ⟨w6, w7, hpn⟩ ⟨by show d + 1 ≤ R.frames; omega, by show 8 + ((mrec k).2.2.1 + 11) + 60 * d ≤ R.locals; omega⟩) ⟨PP_blind, pre_ok hCE hnw hP hK hD hS hB⟩ rfl hl1 hsz hstk (lv_room hwd) hd ⟨by omega, by omega⟩
    · exact my_runSU (As := (st1.take n).reverse) (rest := st1.drop n) (x := ⟨xc, (miN k).name, (miN k).desc⟩) ⟨hx, hb, hml, hown, hts⟩ M (hts _ h1) (hts _ h2) (hts _ hst) (hts _ w1) (hts _ w2) rfl rfl ⟨w6, w7⟩ hpn (by show d + 1 ≤ R.frames; omega) (by show 8 + ((mrec k).2.2.1 + 11) + 60 * d ≤ R.locals; omega) rfl rfl (fun w hw a' U hW => by
        have hg := good_gw (mws_gw hmo) w hw
        exact word_at hW hg.2 (hts w hg.1)) List.mem_cons_self ⟨PP_blind, pre_ok hCE hnw hP hK hD hS hB⟩ rfl hl1 hsz hstk (lv_room hwd) hd ⟨by omega, by omega⟩
  refine my_call key hS hB (fun ws' tys' v' H1 locs1 q1 q2 q3 q4 q5 q6 q7 => ?_)
  refine W.cs (cells' := g1.2.1 - c0) (slots' := g1.2.2 - s0) (by omega) (by omega) ?_
  exact kk ws' tys' H1 locs1 ls _ q2 q3 q4 q5 q6 (hL.ext q7) (q1.stk ((hT.drop n).ext q7)) (hE.trans q7) (by omega) (by omega)
theorem w_callI (Ev : EnvOK p R s m args meth c cc own ini nL A ka K) (hRf : d + 1 ≤ R.frames) (hRl : 60 * (d + 1) ≤ R.locals) (hd : decode cc pc = .ok (.invokespecial i, 3)) {a : Nat} {r : List Value} (hp : pinvI own i = some (k, n)) (hdr : st.drop n = .ref a :: r) (hw : pwords r ≤ 8) (hM : PMet l K D ka d k (.ref a :: (st.take n).reverse) g rv g1) (hroom : g1.2.1 ≤ c0 + R.cells ∧ g1.2.2 ≤ s0 + R.slots) (kk : PW p l e R s m args below meth c Q D A ka ws0 c0 s0 nL (pc + 3) L (rv.toList ++ r) g1) : PW p l e R s m args below meth c Q D A ka ws0 c0 s0 nL pc L st g := by
  obtain ⟨hx, hb, hml, hown, hts, hnw, hCE, hA, hin, hf, hlo⟩ := Ev
  obtain ⟨hmo, hm1, hm2, hMet⟩ := hM
  intro ws tys H locs ls st1 hP hK hD hS hH hL hT hE hc hs
  have hB := aA_ok hA hD hS
  have hdp := hT.drop n
  rw [hdr] at hdp
  obtain ⟨a1, E1, r1, ha1, er1, hT1⟩ := hdp.ref
  have M := hMet ws tys H.size (.ref a1 :: (st1.take n).reverse) hH ⟨⟨a1, E1, ha1, rfl⟩, (hT.take n).rev⟩
  obtain ⟨hlk, hst, hnm, hpn, hno⟩ := pinvI_ok hp
  obtain ⟨w1, w2, w3, w4, w5, w6, w7⟩ := id hmo
  have hsz : ls.size = nL := by obtain ⟨-, lv, hlv, -⟩ := hL; exact hlv.1
  have hln : n < st.length := by
    have : (st.drop n).length = (Value.ref a :: r).length := by rw [hdr]
    rw [List.length_drop, List.length_cons] at this
    omega
  have hl1 : (st1.take n).reverse.length = n := by rw [List.length_reverse, List.length_take, hT.len]; omega
  have hstk : st1 = ((st1.take n).reverse).reverse ++ .ref a1 :: r1 := by rw [List.reverse_reverse, ← er1, List.take_append_drop]
  have hwd : (r1.map fun v => v.category).sum ≤ 8 := by
    have := hT1.words
    unfold pwords at this hw
    omega
  have hno' : (mrec k).2.2.2.1 = none := hno
  have hmw : mws k = Cond.code (miN k) (byAt (mrec k).2.1) (mrec k).2.2.1 none :: GW := by unfold mws; rw [hno']
  have key : va_Run p l e R s m args below meth c H locs (g.2.1 - c0) (g.2.2 - s0) (g1.2.1 - g.2.1) (g1.2.2 - g.2.2) (F0 m pc ls st1) r1 (PQ D ka ws (va_A ws H.size) rv g1 (.ref a1 :: (st1.take n).reverse).toArray) (va_A ws H.size) := by
    rcases hlk with h1 | ⟨host, h1⟩
    · exact va_runI (As := (st1.take n).reverse) (rest := r1) ⟨hx, hb, hml, hown, hts⟩ M (cwI n hts (good_gw (mws_gw hmo)) hmw rfl rfl (hts _ w2) (hts _ h1) (hts _ hst) hnm ⟨w6, w7, hpn⟩ ⟨by show d + 1 ≤ R.frames; omega, by show 8 + ((mrec k).2.2.1 + 11) + 60 * d ≤ R.locals; omega⟩) ⟨PP_blind, pre_ok hCE hnw hP hK hD hS hB⟩ rfl hl1 hsz hstk (lv_room hwd) hd ⟨by omega, by omega⟩
    · exact va_runIN (As := (st1.take n).reverse) (rest := r1) ⟨hx, hb, hml, hown, hts⟩ M ⟨va_cnB n hts (good_gw (mws_gw hmo)) hmw rfl rfl (hnw _ h1) (hts _ w2) ⟨w6, w7, hpn⟩ ⟨by show d + 1 ≤ R.frames; omega, by show 8 + ((mrec k).2.2.1 + 11) + 60 * d ≤ R.locals; omega⟩, hnm, hts _ hst⟩ ⟨PP_blind, pre_ok hCE hnw hP hK hD hS hB⟩ rfl hl1 hsz hstk (lv_room hwd) hd ⟨by omega, by omega⟩
  refine my_call key hS hB (fun ws' tys' v' H1 locs1 q1 q2 q3 q4 q5 q6 q7 => ?_)
  refine W.cs (cells' := g1.2.1 - c0) (slots' := g1.2.2 - s0) (by omega) (by omega) ?_
  exact kk ws' tys' H1 locs1 ls _ q2 q3 q4 q5 q6 (hL.ext q7) (q1.stk (hT1.ext q7)) (hE.trans q7) (by omega) (by omega)
theorem w_callV (Ev : EnvOK p R s m args meth c cc own ini nL A ka K) (hRf : d + 1 ≤ R.frames) (hRl : 60 * (d + 1) ≤ R.locals) (hd : decode cc pc = .ok (.invokevirtual i, 3)) {a ci : Nat} {fs r : List Value} {l1 : List (Nat × Nat)} (hp : pinvV own i = some (n, l1)) (hdr : st.drop n = .ref a :: r) (hg : g.1[a]? = some (.inr (ci, fs))) (hk : alook ci l1 = some k) (hw : pwords r ≤ 8) (hM : PMet l K D ka d k (.ref a :: (st.take n).reverse) g rv g1) (hroom : g1.2.1 ≤ c0 + R.cells ∧ g1.2.2 ≤ s0 + R.slots) (kk : PW p l e R s m args below meth c Q D A ka ws0 c0 s0 nL (pc + 3) L (rv.toList ++ r) g1) : PW p l e R s m args below meth c Q D A ka ws0 c0 s0 nL pc L st g := by
  obtain ⟨hx, hb, hml, hown, hts, hnw, hCE, hA, hin, hf, hlo⟩ := Ev
  obtain ⟨hmo, hm1, hm2, hMet⟩ := hM
  intro ws tys H locs ls st1 hP hK hD hS hH hL hT hE hc hs
  have hB := aA_ok hA hD hS
  have hdp := hT.drop n
  rw [hdr] at hdp
  obtain ⟨a1, E1, r1, ha1, er1, hT1⟩ := hdp.ref
  have M := hMet ws tys H.size (.ref a1 :: (st1.take n).reverse) hH ⟨⟨a1, E1, ha1, rfl⟩, (hT.take n).rev⟩
  obtain ⟨C, T, N, hcl, hst, hpn, hform⟩ := pinvV_ok hp _ (alook_mem hk)
  obtain ⟨w1, w2, w3, w4, w5, w6, w7⟩ := id hmo
  obtain ⟨fs', e2, hfs⟩ := hH.get hg ha1
  subst e2
  have hrecv := va_recv hK hP hcl ha1
  have hsz : ls.size = nL := by obtain ⟨-, lv, hlv, -⟩ := hL; exact hlv.1
  have hln : n < st.length := by
    have : (st.drop n).length = (Value.ref a :: r).length := by rw [hdr]
    rw [List.length_drop, List.length_cons] at this
    omega
  have hl1 : (st1.take n).reverse.length = n := by rw [List.length_reverse, List.length_take, hT.len]; omega
  have hstk : st1 = ((st1.take n).reverse).reverse ++ .ref a1 :: r1 := by rw [List.reverse_reverse, ← er1, List.take_append_drop]
  have hwd : (r1.map fun v => v.category).sum ≤ 8 := by
    have := hT1.words
    unfold pwords at this hw
    omega
  have key : va_Run p l e R s m args below meth c H locs (g.2.1 - c0) (g.2.2 - s0) (g1.2.1 - g.2.1) (g1.2.2 - g.2.2) (F0 m pc ls st1) r1 (PQ D ka ws (va_A ws H.size) rv g1 (.ref a1 :: (st1.take n).reverse).toArray) (va_A ws H.size) := by
    rcases hform with ⟨h1, h2, h3, h4⟩ | ⟨xc, h1, h2, h3⟩
    · exact va_runV (C := C) (As := (st1.take n).reverse) (rest := r1) ⟨hx, hb, hml, hown, hts⟩ M (cwV n hts (good_gw (fun w hw => by
        rcases List.mem_append.mp hw with h5 | h5
        · simp only [List.mem_cons, List.not_mem_nil, or_false] at h5
          rcases h5 with h6 | h6 | h6 | h6 <;> rw [h6]
          · exact h1
          · exact hst
          · exact h2
          · exact h4
        · exact mws_gw hmo w h5)) rfl rfl rfl ⟨h3, w6, w7, hpn⟩ ⟨by show d + 1 ≤ R.frames; omega, by show 8 + ((mrec k).2.2.1 + 11) + 60 * d ≤ R.locals; omega⟩) ⟨PP_blind, hrecv, pre_ok hCE hnw hP hK hD hS hB⟩ rfl hl1 hsz hstk (lv_room hwd) hd ⟨by omega, by omega⟩
    · exact va_runU (C := C) (owner := (miN k).cls) (x := ⟨xc, (miN k).name, (miN k).desc⟩) (As := (st1.take n).reverse) (rest := r1) ⟨hx, hb, hml, hown, hts⟩ M (va_cwU n hts (good_gw (fun w hw => by
        rcases List.mem_append.mp hw with h5 | h5
        · simp only [List.mem_cons, List.not_mem_nil, or_false] at h5
          rcases h5 with h6 | h6 | h6 | h6 | h6 <;> rw [h6]
          · exact h1
          · exact h2
          · exact h3
          · exact hst
          · exact w2
        · exact mws_gw hmo w h5)) rfl rfl rfl rfl ⟨w6, w7, hpn⟩ ⟨by show d + 1 ≤ R.frames; omega, by show 8 + ((mrec k).2.2.1 + 11) + 60 * d ≤ R.locals; omega⟩) ⟨PP_blind, hrecv, pre_ok hCE hnw hP hK hD hS hB⟩ rfl hl1 hsz hstk (lv_room hwd) hd ⟨by omega, by omega⟩
  refine my_call key hS hB (fun ws' tys' v' H1 locs1 q1 q2 q3 q4 q5 q6 q7 => ?_)
  refine W.cs (cells' := g1.2.1 - c0) (slots' := g1.2.2 - s0) (by omega) (by omega) ?_
  exact kk ws' tys' H1 locs1 ls _ q2 q3 q4 q5 q6 (hL.ext q7) (q1.stk (hT1.ext q7)) (hE.trans q7) (by omega) (by omega)
theorem w_callT (Ev : EnvOK p R s m args meth c cc own ini nL A ka K) (hRf : d + 1 ≤ R.frames) (hRl : 60 * (d + 1) ≤ R.locals) (hd : decode cc pc = .ok (.invokevirtual i, 3)) {z : Nat} {r : List Value} (hz : 20 ≤ z ∧ z ≤ 24) (h1 : Cond.methodLink (cnm own) i (miN k) ∈ GW) (hst : Cond.instanceMethod (miN k) ∈ GW) (h2 : Cond.selects "java/lang/String" (miN k) (miN k) ∈ GW) (h3 : (miN k).cls = "java/lang/String") (hpn : pn (miN k).desc = some n) (hdr : st.drop n = .retAddr z :: r) (hw : pwords r ≤ 8) (hM : PMet l K D ka d k (.retAddr z :: (st.take n).reverse) g rv g1) (hroom : g1.2.1 ≤ c0 + R.cells ∧ g1.2.2 ≤ s0 + R.slots) (kk : PW p l e R s m args below meth c Q D A ka ws0 c0 s0 nL (pc + 3) L (rv.toList ++ r) g1) : PW p l e R s m args below meth c Q D A ka ws0 c0 s0 nL pc L st g := by
  obtain ⟨hx, hb, hml, hown, hts, hnw, hCE, hA, hin, hf, hlo⟩ := Ev
  obtain ⟨hmo, hm1, hm2, hMet⟩ := hM
  intro ws tys H locs ls st1 hP hK hD hS hH hL hT hE hc hs
  have hB := aA_ok hA hD hS
  have hdp := hT.drop n
  rw [hdr] at hdp
  obtain ⟨r1, er1, hT1⟩ := hdp.con
  have M := hMet ws tys H.size (.ref (ka z) :: (st1.take n).reverse) hH ⟨rfl, (hT.take n).rev⟩
  obtain ⟨w1, w2, w3, w4, w5, w6, w7⟩ := id hmo
  obtain ⟨adV, hvS⟩ := hCE.2.2.2.2.2.1
  have hrecv := vk_recv (i := z - 20) hvS (by omega) hS
  rw [show ka (20 + (z - 20)) = ka z by rw [show 20 + (z - 20) = z by omega]] at hrecv
  have hsz : ls.size = nL := by obtain ⟨-, lv, hlv, -⟩ := hL; exact hlv.1
  have hln : n < st.length := by
    have : (st.drop n).length = (Value.retAddr z :: r).length := by rw [hdr]
    rw [List.length_drop, List.length_cons] at this
    omega
  have hl1 : (st1.take n).reverse.length = n := by rw [List.length_reverse, List.length_take, hT.len]; omega
  have hstk : st1 = ((st1.take n).reverse).reverse ++ .ref (ka z) :: r1 := by rw [List.reverse_reverse, ← er1, List.take_append_drop]
  have hwd : (r1.map fun v => v.category).sum ≤ 8 := by
    have := hT1.words
    unfold pwords at this hw
    omega
  have key : va_Run p l e R s m args below meth c H locs (g.2.1 - c0) (g.2.2 - s0) (g1.2.1 - g.2.1) (g1.2.2 - g.2.2) (F0 m pc ls st1) r1 (PQ D ka ws (va_A ws H.size) rv g1 (.ref (ka z) :: (st1.take n).reverse).toArray) (va_A ws H.size) :=
    va_runV (C := "java/lang/String") (As := (st1.take n).reverse) (rest := r1) ⟨hx, hb, hml, hown, hts⟩ M (cwV n hts (good_gw (fun w hw => by
        rcases List.mem_append.mp hw with h5 | h5
        · simp only [List.mem_cons, List.not_mem_nil, or_false] at h5
          rcases h5 with h6 | h6 | h6 | h6 <;> rw [h6]
          · exact h1
          · exact hst
          · exact h2
          · exact st_i
        · exact mws_gw hmo w h5)) rfl rfl rfl ⟨h3, w6, w7, hpn⟩ ⟨by show d + 1 ≤ R.frames; omega, by show 8 + ((mrec k).2.2.1 + 11) + 60 * d ≤ R.locals; omega⟩) ⟨PP_blind, hrecv, pre_ok hCE hnw hP hK hD hS hB⟩ rfl hl1 hsz hstk (lv_room hwd) hd ⟨by omega, by omega⟩
  refine my_call key hS hB (fun ws' tys' v' H1 locs1 q1 q2 q3 q4 q5 q6 q7 => ?_)
  refine W.cs (cells' := g1.2.1 - c0) (slots' := g1.2.2 - s0) (by omega) (by omega) ?_
  exact kk ws' tys' H1 locs1 ls _ q2 q3 q4 q5 q6 (hL.ext q7) (q1.stk (hT1.ext q7)) (hE.trans q7) (by omega) (by omega)
end Calls
