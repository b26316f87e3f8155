/-! the law's own brigade, which catches -/
def cdB : PC := [[(0, .aload_n 3, 1), (1, .iconst 0, 1), (2, .aload_n 0, 1), (3, .iload_n 1, 1), (4, .iload_n 2, 1), (5, .invokevirtual 7, 3), (8, .i2l, 1), (9, .lastore, 1), (10, .goto 7, 3), (13, .astore 4, 2), (15, .iconst 1, 1)], [(16, .ireturn, 1), (17, .iconst 0, 1), (18, .ireturn, 1)]]
theorem cdB_d : ∀ c ∈ cdB, ∀ e ∈ c, decode method_3_code e.1 = .ok (e.2.1, e.2.2) := by decide +kernel
theorem cdB_l : ∀ c ∈ cdB, ∀ e ∈ c, lenOK e.2.1 e.2.2 = true := by decide +kernel
theorem cdB_ok : ∀ pc ins len, pfetch cdB pc = some (ins, len) → decode method_3_code pc = .ok (ins, len) ∧ lenOK ins len = true := fun pc ins len hf => by
  obtain ⟨ch, h1, h2⟩ := pfetch_mem hf
  have ha := cdB_d ch h1 (pc, ins, len) h2
  have hb := cdB_l ch h1 (pc, ins, len) h2
  exact ⟨ha, hb⟩
def yB : MethodName := ⟨"ThreeLaddersLaw", "brigade", "(LThreeLadders;II[J)I"⟩
def hhB : List (Nat × Nat × Nat × Nat) := [(0, 10, 13, 13)]
def wsB : List Cond := Cond.codeWith yB method_3_code 5 (some .int) hhB :: GW
theorem my_ofWH {l : Launch} {y : MethodName} {ws ws' : List Cond} {rm : Room} {Pc : Array Value → State → Prop} {Qc : Array Value → State → Outcome → State → Prop} {mc ms : Nat} {free : Addr → Prop} {cc : ByteArray} {maxL : Nat} {ret : Option FieldType} {hh : List (Nat × Nat × Nat × Nat)}
    (hy : plainName y.cls = true) (hw : ws = Cond.codeWith y cc maxL ret hh :: ws')
    (body : ∀ p e s m args below meth c s₁, BodyLoose p l y (headSpec ws rm) cc maxL ret e s m args below meth c s₁ → c.maxLocals = maxL → Pc args s →
      W p l e (headSpec ws rm).room s m args below meth c s.heap [] 0 0 (MQ below Qc args s mc ms free) (entryFrame m args maxL)) : Met l y ws rm Pc Qc mc ms free := by
  refine MetFree.of_bodyS (code := cc) (maxLocals := maxL) (ret := ret) hy ?_ ?_
  · intro args s m h hn
    obtain ⟨m9, meth, c, hn9, h1, h2, h3, h4, -, h5, h6, -⟩ := Cond.codeWith_spec (atoms_spec (ws := ws) h _ (by rw [hw]; exact List.mem_cons_self))
    cases hn.symm.trans hn9
    exact ⟨meth, c, h1, h2, h3, h4, h5, h6⟩
  · intro p e s m args below meth c s₁ B hml hP _
    have hh0 : s₁.heap = s.heap := by rw [B.state]; rfl
    obtain ⟨t, a1, o, b1, b2, b3⟩ := body p e s m args below meth c s₁ B hml hP s₁ hh0 (Stand.of_body B)
    exact ⟨t, o, a1, b1, b2, ⟨b3.1, b3.2⟩⟩
/-- the contract of the law's brigade -/
def BMet (l : Launch) (K : PK) (D : va_G) (ka : Nat → Nat) (as : List Value) (g : PG) (r : Int32) (g' : PG) : Prop :=
  g.2.1 ≤ g'.2.1 ∧ g.2.2 ≤ g'.2.2 ∧ ∀ (ws : va_W) (tys : List (ClassId × FieldType)) (sz : Nat) (av : List Value), HRel ka ws tys g.1 → SRel ka ws as av → Met l yB wsB (rmD 60 (g'.2.1 - g.2.1) (g'.2.2 - g.2.2)) (va_Pc av (PPx K D ka ws tys sz)) (PQ D ka ws (va_A ws sz) (some (.int r)) g') (g'.2.1 - g.2.1) (g'.2.2 - g.2.2) (va_A ws sz)
theorem lb_lk : Cond.methodLink (cnm 13) 7 (miN 109) ∈ GW := by decide +kernel
theorem lb_se : Cond.selects "ThreeLadders" (miN 109) (miN 109) ∈ GW := by decide +kernel
theorem lb_in : Cond.instanceMethod (miN 109) ∈ GW := by decide +kernel
theorem lb_ni : Cond.initialized "ThreeLadders" ∈ GW := by decide +kernel
theorem lb_cl : Cond.classLink (cnm 13) 13 nse ∈ GW := by decide +kernel
theorem lb_ca : Cond.castable nse nse ∈ CW := by decide +kernel
theorem lb_c10 : ∃ T N, classes[10]? = some ("ThreeLadders", T, N) := ⟨_, _, rfl⟩
def gN (g : PG) (ou : Nat → Int64) (v : Int32) : PG := (g.1.set 117 (.inl (2, 1, .inr (.inl (vp_updL ou 0 v.toInt64)))), g.2)
theorem bn_met {l : Launch} {K : PK} {D : va_G} {ka : Nat → Nat} (hO : ∀ k as g rv g1, CallR K 59 k as g rv g1 → PMet l K D ka 59 k as g rv g1) {x y v : Int32} {g : PG} {ou : Nat → Int64} {fs : List Value} (hc : CallR K 59 109 [.ref 0, .int x, .int y] g (some (.int v)) g) (hfs : g.1[0]? = some (.inr (10, fs))) (h117 : g.1[117]? = some (.inl (2, 1, .inr (.inl ou)))) : BMet l K D ka [.ref 0, .int x, .int y, .ref 117] g 0 (gN g ou v) := by
  refine ⟨Nat.le_refl _, Nat.le_refl _, ?_⟩
  intro ws tys sz av hH hT
  refine my_ofWH (cc := method_3_code) (maxL := 5) (ret := some .int) (ws' := GW) (hh := hhB) (by decide +kernel) rfl ?_
  intro p en s m args below meth c s₁ B hml hv
  obtain ⟨rfl, ⟨hsz, hP, hK, hD, hCE, hNW⟩, hUS⟩ := hv
  have hts0 := atoms_spec (ws := wsB) B.pre
  have hts : ∀ w ∈ GW, w.before av.toArray s = true := fun w hw => hts0 w (List.mem_cons_of_mem _ hw)
  have hown : s.vm.findClass (cnm 13) = some m.cls := findClass_of_methodNamed (x := yB) B.named
  have Ev : EnvOK p (rmD 60 ((gN g ou v).2.1 - g.2.1) ((gN g ou v).2.2 - g.2.2)) s m av.toArray meth c method_3_code 13 false 5 (va_A ws sz) ka K := ⟨B.exec, B.bytes, hml, hown, hts, hNW, hCE, fun q hq => Or.inr (by rw [← hsz]; exact hq), (fun h => absurd h (by decide)), by show 1 ≤ 60; omega, by show 60 ≤ 60 * 60; omega⟩
  have H := pw_bk (e := en) (below := below) (Q := MQ below (PQ D ka ws (va_A ws sz) (some (.int 0)) (gN g ou v)) av.toArray s ((gN g ou v).2.1 - g.2.1) ((gN g ou v).2.2 - g.2.2) (va_A ws sz)) (ws0 := ws) (c0 := g.2.1) (s0 := g.2.2) (cd := cdB) hO Ev (Nat.le_refl 60) (Nat.le_refl (60 * 60)) cdB_ok
  have hPX : PX p l en (rmD 60 ((gN g ou v).2.1 - g.2.1) ((gN g ou v).2.2 - g.2.2)) s m av.toArray below meth c (MQ below (PQ D ka ws (va_A ws sz) (some (.int 0)) (gN g ou v)) av.toArray s ((gN g ou v).2.1 - g.2.1) ((gN g ou v).2.2 - g.2.2) (va_A ws sz)) D (va_A ws sz) ka ws g.2.1 g.2.2 5 0 (pinit 5 [.ref 0, .int x, .int y, .ref 117]) [] g := by
    refine H.seg 5 (pc' := 5) (L' := [some (.ref 0), some (.int x), some (.int y), some (.ref 117), none]) (st' := [.int y, .int x, .ref 0, .int 0, .ref 117]) (g1 := g) rfl ?_
    refine H.callV rfl rfl rfl hfs rfl rfl hc ?_
    refine H.seg 1 (pc' := 9) (L' := [some (.ref 0), some (.int x), some (.int y), some (.ref 117), none]) (st' := [.long v.toInt64, .int 0, .ref 117]) (g1 := g) rfl ?_
    refine H.1 _ _ _ _ .lastore 1 (10, [some (.ref 0), some (.int x), some (.int y), some (.ref 117), none], [], gN g ou v) rfl ?_ ?_
    · show plast 10 _ g [.long v.toInt64, .int 0, .ref 117] = _
      unfold plast
      simp only [h117]
      rfl
    · refine H.seg 2 (pc := 10) (L := [some (.ref 0), some (.int x), some (.int y), some (.ref 117), none]) (st := []) (g := gN g ou v) (pc' := 18) (L' := [some (.ref 0), some (.int x), some (.int y), some (.ref 117), none]) (st' := [.int 0]) (g1 := gN g ou v) rfl ?_
      refine ⟨⟨by show g.2.1 ≤ g.2.1 + _; omega, by show g.2.2 ≤ g.2.2 + _; omega⟩, ?_⟩
      exact ret_ok (ins := .ireturn) (len := 1) (rt := some .int) (r := some (.int 0)) B.exec B.bytes B.returns B.notSynchronized (cdB_ok 18 .ireturn 1 rfl).1 rfl rfl
  have h0 := hPX.2 ws tys s.heap [] _ [] hP hK hD.self va_S.rf hH (LRel.init (n := 5) hT (Nat.le_of_ble_eq_true rfl)) trivial Ext.rf (Nat.le_refl _) (Nat.le_refl _)
  rw [Nat.sub_self, Nat.sub_self] at h0
  rw [lg_entry_eq]
  exact h0
def gT (g : PG) : PG := (g.1, g.2.1 + 1, g.2.2 + 6)
theorem bt_met {l : Launch} {K : PK} {D : va_G} {ka : Nat → Nat} (hl : l.stackTraces = false) (hO8 : ∀ k as g rv g1, CallR K 58 k as g rv g1 → PMet l K D ka 58 k as g rv g1) (hO : ∀ k as g rv g1, CallR K 59 k as g rv g1 → PMet l K D ka 59 k as g rv g1) {x y : Int} {g : PG} (hth : ThB K x y g) : BMet l K D ka [.ref 0, .int (iI x), .int (iI y), .ref 117] g 1 (gT g) := by
  refine ⟨Nat.le_succ _, Nat.le_add_right _ _, ?_⟩
  intro ws tys sz av hH hT
  have m1 : (gT g).2.1 - g.2.1 = 1 := by show g.2.1 + 1 - g.2.1 = 1; omega
  have m2 : (gT g).2.2 - g.2.2 = 6 := by show g.2.2 + 6 - g.2.2 = 6; omega
  rw [m1, m2]
  refine my_ofWH (cc := method_3_code) (maxL := 5) (ret := some .int) (ws' := GW) (hh := hhB) (by decide +kernel) rfl ?_
  intro p en s m args below meth c s₁ B hml hv
  obtain ⟨rfl, ⟨hsz, hP, hK, hD, hCE, hNW⟩, hUS⟩ := hv
  have hts0 := atoms_spec (ws := wsB) B.pre
  have hts : ∀ w ∈ GW, w.before av.toArray s = true := fun w hw => hts0 w (List.mem_cons_of_mem _ hw)
  have hown : s.vm.findClass (cnm 13) = some m.cls := findClass_of_methodNamed (x := yB) B.named
  have htb : c.exceptionTable.toList = tableOf hhB := vx_table (x := yB) B (hts0 _ List.mem_cons_self)
  have hA : ∀ q, s.heap.size ≤ q → va_A ws sz q := fun q hq => Or.inr (by rw [← hsz]; exact hq)
  have Ev : EnvOK p (rmD 60 1 6) s m av.toArray meth c method_3_code 13 false 5 (va_A ws sz) ka K := ⟨B.exec, B.bytes, hml, hown, hts, hNW, hCE, hA, (fun h => absurd h (by decide)), by show 1 ≤ 60; omega, by show 60 ≤ 60 * 60; omega⟩
  have H := pw_bk (e := en) (below := below) (Q := MQ below (PQ D ka ws (va_A ws sz) (some (.int 1)) (gT g)) av.toArray s 1 6 (va_A ws sz)) (ws0 := ws) (c0 := g.2.1) (s0 := g.2.2) (cd := cdB) hO Ev (Nat.le_refl 60) (Nat.le_refl (60 * 60)) cdB_ok
  have hPX : PX p l en (rmD 60 1 6) s m av.toArray below meth c (MQ below (PQ D ka ws (va_A ws sz) (some (.int 1)) (gT g)) av.toArray s 1 6 (va_A ws sz)) D (va_A ws sz) ka ws g.2.1 g.2.2 5 0 (pinit 5 [.ref 0, .int (iI x), .int (iI y), .ref 117]) [] g := by
    refine H.seg 5 (pc' := 5) (L' := [some (.ref 0), some (.int (iI x)), some (.int (iI y)), some (.ref 117), none]) (st' := [.int (iI y), .int (iI x), .ref 0, .int 0, .ref 117]) (g1 := g) rfl ?_
    refine ⟨⟨Nat.le_add_right _ _, Nat.le_add_right _ _⟩, ?_⟩
    intro ws' tys' H1 locs ls st1 hP' hK' hD' hS hH' hL' hT' hE hc hs
    obtain ⟨r1, e1, t1⟩ := hT'.int
    obtain ⟨r2, e2, t2⟩ := t1.int
    obtain ⟨a0, E0, r3, h0, e3, t3⟩ := t2.ref
    obtain ⟨r4, e4, t4⟩ := t3.int
    obtain ⟨a9, E9, r5, h9, e5, t5⟩ := t4.ref
    have e6 := t5.nil
    subst e6 e5 e4 e3 e2 e1
    obtain ⟨fs, hfs⟩ := hth.2.2.2
    obtain ⟨fs', e7, -⟩ := hH'.get hfs h0
    subst e7
    obtain ⟨T9, N9, hcl⟩ := lb_c10
    have hB := aA_ok hA hD' hS
    have hrecv := va_recv hK' hP' hcl h0
    have hmo : mOK (mrec 109) := mthL_ok _ (getD_mem_lt (by decide +kernel))
    obtain ⟨w1, w2, w3, w4, w5, w6, w7⟩ := id hmo
    have hls : ls.size = 5 := by obtain ⟨-, lv, hlv, -⟩ := hL'; exact hlv.1
    have M := xb_thr (l := l) (D := D) (ka := ka) hl hO8 hth ws' tys' H1.size [.ref a0, .int (iI x), .int (iI y)] hH' ⟨⟨a0, _, h0, rfl⟩, rfl, rfl, trivial⟩
    have key := vx_runV (p := p) (e := en) (below := below) (meth := meth) (locs := locs) (cells := g.2.1 - g.2.1) (slots := g.2.2 - g.2.2) (R := rmD 60 1 6) (cc := method_3_code) (nL := 5) (H := H1) (own := cnm 13) (index := 7) (C := "ThreeLadders") (g := F0 m 5 ls [.int (iI y), .int (iI x), .ref a0, .int 0, .ref a9]) (As := [.int (iI x), .int (iI y)]) (rest := [.int 0, .ref a9]) ⟨B.exec, B.bytes, hml, hown, hts⟩ M (cwV 2 hts (good_gw (fun w hw => by
        rcases List.mem_append.mp hw with h5 | h5
        · simp only [List.mem_cons, List.not_mem_nil, or_false] at h5
          rcases h5 with h6 | h6 | h6 | h6 <;> rw [h6]
          · exact lb_lk
          · exact lb_in
          · exact lb_se
          · exact lb_ni
        · exact mws_gw hmo w h5)) rfl rfl rfl ⟨rfl, w6, w7, by decide +kernel⟩ ⟨by show 59 + 1 ≤ 60; omega, by show 8 + (3 + 11) + 60 * 59 ≤ 60 * 60; omega⟩) ⟨PPx_blind, hrecv, fun U hU hW => ⟨(pre_ok (av := [.ref a0, .int (iI x), .int (iI y)]) hCE hNW hP' hK' hD' hS hB U hU hW).1, (pre_ok (av := [.ref a0, .int (iI x), .int (iI y)]) hCE hNW hP' hK' hD' hS hB U hU hW).2, hUS.to hS hW hU hB⟩⟩ rfl rfl hls rfl (lv_room (Nat.le_of_ble_eq_true rfl)) (cdB_ok 5 (.invokevirtual 7) 3 rfl).1 ⟨by show g.2.1 - g.2.1 + 1 ≤ 1; omega, by show g.2.2 - g.2.2 + 6 ≤ 6; omega⟩
    unfold QN XB at key
    refine vx_calli (A0 := va_A ws sz) (H0 := s.heap) key hS (fun q _ h => hB q h) hB (fun q _ h => hB q h) ?_ (fun r u t H2 locs2 _ _ hpost => hpost.elim)
    intro E ce q9 u t H2 locs2 ht hal hpx hbx hsz2 hkeep hS2 hce hcv hcle
    obtain ⟨hE2, hH2, hD2⟩ := hpx
    obtain ⟨hEn, hP2, hK2⟩ := hbx
    subst hEn
    refine vx_catch (own := cnm 13) (name := nse) (E := nse) (ce := ce) hown [] ⟨0, 10, 13, 13⟩ [] htb (fun z hz => absurd hz List.not_mem_nil) (by decide) (by decide) (hts _ lb_cl) (cw_use lb_ca (hUS.2.2 _ lb_ca)) hce hcv hcle ?_
    obtain ⟨-, lv, hlv, -⟩ := hL'
    refine lv_astore B.exec B.bytes (cdB_ok 13 (.astore 4) 2 rfl).1 hlv (by decide) rfl (fun ls1 hl1 => ?_)
    refine lv_iconst B.exec B.bytes (cdB_ok 15 (.iconst 1) 1 rfl).1 (ilit_eq 1) ?_
    have hret := ret_ok (p := p) (l := l) (e := en) (R := rmD 60 1 6) (s := s) (m := m) (args := av.toArray) (below := below) (meth := meth) (c := c) (D := D) (A := va_A ws sz) (ka := ka) (ws0 := ws) (c0 := g.2.1) (s0 := g.2.2) (nL := 5) (cc := method_3_code) (pc := 16) (L := [none, none, none, none, none]) (st := [.int (ilit 1)]) (g := gT g) (ins := .ireturn) (len := 1) (rt := some .int) (r := some (.int 1)) B.exec B.bytes B.returns B.notSynchronized (cdB_ok 16 .ireturn 1 rfl).1 rfl rfl
    rw [m1, m2] at hret
    refine W.cs (cells' := (gT g).2.1 - g.2.1) (slots' := (gT g).2.2 - g.2.2) (by rw [m1]; omega) (by rw [m2]; omega) ?_
    refine hret u.1 u.2 H2 locs2 ls1 [.int (ilit 1)] (by rw [← ht]; exact hP2) (va_K.moved hal.symm hK2) (hD2.weaken (fun _ _ _ h => hB _ h)) hS2 hH2 ⟨rfl, _, hl1, fun i v hv => ?_⟩ ⟨rfl, trivial⟩ (hE.trans hE2) (Nat.le_succ _) (Nat.le_add_right _ _)
    have : ([none, none, none, none, none] : PL) = List.replicate 5 none := rfl
    rw [this, List.getElem?_replicate] at hv
    split at hv <;> cases hv
  have h0 := hPX.2 ws tys s.heap [] _ [] hP hK hD.self va_S.rf hH (LRel.init (n := 5) hT (Nat.le_of_ble_eq_true rfl)) trivial Ext.rf (Nat.le_refl _) (Nat.le_refl _)
  rw [Nat.sub_self, Nat.sub_self] at h0
  rw [lg_entry_eq]
  exact h0
theorem lb_ml : Cond.methodLink (cnm 13) 38 yB ∈ GW := by decide +kernel
theorem lb_st : Cond.static yB ∈ GW := by decide +kernel
theorem lb_il : Cond.initialized (cnm 13) ∈ GW := by decide +kernel
theorem lb_cw : Cond.codeWith yB method_3_code 5 (some .int) hhB ∈ GW := by decide +kernel
theorem w_brig {p : Program} {l : Launch} {e : Env} {R : Room} {s : State} {m : MethodId} {args : Array Value} {below : List Frame} {meth : Method} {c : Code} {Q : State → Prop} {D : va_G} {A : Nat → Prop} {ka : Nat → Nat} {ws0 : va_W} {c0 s0 nL : Nat} {cc : ByteArray} {pc : Nat} {L : PL} {g g1 : PG} {ini : Bool} {K : PK} {rest : List Value} {x y : Int32} {r : Int32} (Ev : EnvOK p R s m args meth c cc 13 ini nL A ka K) (hUS : USt A s s.heap) (hRf : 61 ≤ R.frames) (hRl : 3660 ≤ R.locals) (hd : decode cc pc = .ok (.invokestatic 38, 3)) (hw : pwords rest ≤ 8) (hM : BMet l K D ka [.ref 0, .int x, .int y, .ref 117] g r g1) (hroom : g1.2.1 ≤ c0 + R.cells ∧ g1.2.2 ≤ s0 + R.slots) (kk : PW p l e R s m args below meth c Q D A ka ws0 c0 s0 nL (pc + 3) L (.int r :: rest) g1) : PW p l e R s m args below meth c Q D A ka ws0 c0 s0 nL pc L (.ref 117 :: .int y :: .int x :: .ref 0 :: rest) g := by
  obtain ⟨hx, hb, hml, hown, hts, hnw, hCE, hA, hin, hf, hlo⟩ := Ev
  obtain ⟨hm1, hm2, hMet⟩ := hM
  intro ws tys H locs ls st1 hP hK hD hS hH hL hT hE hc hs
  have hB := aA_ok hA hD hS
  obtain ⟨a9, E9, r1, h9, e1, t1⟩ := hT.ref
  obtain ⟨r2, e2, t2⟩ := t1.int
  obtain ⟨r3, e3, t3⟩ := t2.int
  obtain ⟨a0, E0, r4, h0, e4, t4⟩ := t3.ref
  subst e4 e3 e2 e1
  have M := hMet ws tys H.size [.ref a0, .int x, .int y, .ref a9] hH ⟨⟨a0, E0, h0, rfl⟩, rfl, rfl, ⟨a9, E9, h9, rfl⟩, trivial⟩
  have hsz : ls.size = nL := by obtain ⟨-, lv, hlv, -⟩ := hL; exact hlv.1
  have hwd : (r4.map fun v => v.category).sum ≤ 8 := by
    have := t4.words
    unfold pwords at this hw
    omega
  have key : va_Run p l e R s m args below meth c H locs (g.2.1 - c0) (g.2.2 - s0) (g1.2.1 - g.2.1) (g1.2.2 - g.2.2) (F0 m pc ls (.ref a9 :: .int y :: .int x :: .ref a0 :: r4)) r4 (PQ D ka ws (va_A ws H.size) (some (.int r)) g1 ([.ref a0, .int x, .int y, .ref a9] : List Value).toArray) (va_A ws H.size) :=
    vx_runSW (As := [.ref a0, .int x, .int y, .ref a9]) (rest := r4) ⟨hx, hb, hml, hown, hts⟩ M (vx_cwSW (own := cnm 13) (index := 38) (hh := hhB) 4 hts (good_gw (fun w hw => by
      rcases List.mem_append.mp hw with h3 | h3
      · simp only [List.mem_cons, List.not_mem_nil, or_false] at h3
        rcases h3 with h4 | h4 | h4 <;> rw [h4]
        · exact lb_ml
        · exact lb_st
        · exact lb_il
      · rcases List.mem_cons.mp h3 with h4 | h4
        · rw [h4]; exact lb_cw
        · exact h4)) rfl rfl rfl (by decide +kernel) ⟨by show 60 + 1 ≤ R.frames; omega, by show 8 + (5 + 11) + 60 * 60 ≤ R.locals; omega⟩) ⟨PPx_blind, fun U hU hW => ⟨(pre_ok (av := [.ref a0, .int x, .int y, .ref a9]) hCE hnw hP hK hD hS hB U hU hW).1, (pre_ok (av := [.ref a0, .int x, .int y, .ref a9]) hCE hnw hP hK hD hS hB U hU hW).2, hUS.to hS hW hU hB⟩⟩ rfl rfl hsz rfl (lv_room hwd) hd ⟨by omega, by omega⟩
  refine my_call key hS hB (fun ws' tys' v' H1 locs1 q1 q2 q3 q4 q5 q6 q7 => ?_)
  refine W.cs (cells' := g1.2.1 - c0) (slots' := g1.2.2 - s0) (by omega) (by omega) ?_
  exact kk ws' tys' H1 locs1 ls _ q2 q3 q4 q5 q6 (hL.ext q7) (q1.stk (t4.ext q7)) (hE.trans q7) (by omega) (by omega)
