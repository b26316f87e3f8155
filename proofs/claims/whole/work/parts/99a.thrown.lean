/-! backward rules over the machine itself; the class's brigade that throws -/
def BkG (own : Nat) (ini : Bool) (cd : PC) (d : Nat) (K : PK) (X : Nat → PL → List Value → PG → Prop) : Prop :=
  (∀ pc L st g ins len S, pfetch cd pc = some (ins, len) → pstep own ini K ins pc L st g = some S → X S.1 S.2.1 S.2.2.1 S.2.2.2 → X pc L st g) ∧
  (∀ pc L st g ins len k as rest rv g1, pfetch cd pc = some (ins, len) → pcall own ins st g = some (k, as, rest) → CallR K d k as g rv g1 → X (pc + 3) L (rv.toList ++ rest) g1 → X pc L st g)
section BG
variable {own : Nat} {ini : Bool} {cd : PC} {d : Nat} {K : PK} {X : Nat → PL → List Value → PG → Prop} {pc : Nat} {L : PL} {st : List Value} {g : PG}
theorem BkG.seg (H : BkG own ini cd d K X) : ∀ (n : Nat) {pc : Nat} {L : PL} {st : List Value} {g : PG} {pc' : Nat} {L' : PL} {st' : List Value} {g1 : PG}, psteps own ini K cd n pc L st g = some (pc', L', st', g1) → X pc' L' st' g1 → X pc L st g
  | 0, _, _, _, _, _, _, _, _, h, k => by cases h; exact k
  | n + 1, pc, L, st, g, _, _, _, _, h, k => by
    unfold psteps at h
    cases hf : pfetch cd pc with
    | none => rw [hf] at h; cases h
    | some il =>
      obtain ⟨ins, len⟩ := il
      rw [hf] at h
      dsimp only at h
      cases hs : pstep own ini K ins pc L st g with
      | none => rw [hs] at h; cases h
      | some S1 =>
        obtain ⟨a1, a2, a3, a4⟩ := S1
        rw [hs] at h
        exact H.1 _ _ _ _ _ _ _ hf hs (BkG.seg H n h k)
theorem BkG.callV (H : BkG own ini cd d K X) {len i n a ci k : Nat} {fs r : List Value} {l1 : List (Nat × Nat)} {rv : Option Value} {g1 : PG} (hf : pfetch cd pc = some (.invokevirtual i, len)) (h1 : pinvV own i = some (n, l1)) (h2 : st.drop n = .ref a :: r) (h3 : g.1[a]? = some (.inr (ci, fs))) (h4 : alook ci l1 = some k) (h5 : Nat.ble (pwords r) 8 = true) (ho : CallR K d k (.ref a :: (st.take n).reverse) g rv g1) (kk : X (pc + 3) L (rv.toList ++ r) g1) : X pc L st g := by
  refine H.2 _ _ _ _ _ _ _ _ _ _ _ hf ?_ ho kk
  simp only [pcall, h1, h2, h3, h4, h5, cond_true]
theorem BkG.if2 (H : BkG own ini cd d K X) {c : ClassFile.Cond} {off : Int} {len t : Nat} {x y : Int32} {a b : Int} (hf : pfetch cd pc = some (.if_icmp c off, len)) (ht : ptgt pc off = some t) (hx : x = iI a) (hy : y = iI b) (ra : -2147483648 ≤ a ∧ a < 2147483648) (rb : -2147483648 ≤ b ∧ b < 2147483648) (k1 : zcmp c a b → X t L st g) (k2 : ¬ zcmp c a b → X (pc + 3) L st g) : X pc L (.int y :: .int x :: st) g := by
  subst hx hy
  cases h : icmp c (iI a) (iI b) with
  | true => exact H.1 _ _ _ _ _ _ (t, L, st, g) hf (by show (ptgt pc off).map _ = _; rw [ht, h]; rfl) (k1 ((icmp_z ra rb).mp h))
  | false => exact H.1 _ _ _ _ _ _ (pc + 3, L, st, g) hf (by show (ptgt pc off).map _ = _; rw [ht, h]; rfl) (k2 (fun q => by rw [(icmp_z ra rb).mpr q] at h; cases h))
theorem BkG.if1 (H : BkG own ini cd d K X) {c : ClassFile.Cond} {off : Int} {len t : Nat} {x : Int32} {a : Int} (hf : pfetch cd pc = some (.ifCond c off, len)) (ht : ptgt pc off = some t) (hx : x = iI a) (ra : -2147483648 ≤ a ∧ a < 2147483648) (k1 : zcmp c a 0 → X t L st g) (k2 : ¬ zcmp c a 0 → X (pc + 3) L st g) : X pc L (.int x :: st) g := by
  subst hx
  cases h : icmp c (iI a) 0 with
  | true => exact H.1 _ _ _ _ _ _ (t, L, st, g) hf (by show (ptgt pc off).map _ = _; rw [ht, h]; rfl) (k1 ((icmp_z (b := 0) ra (by omega)).mp h))
  | false => exact H.1 _ _ _ _ _ _ (pc + 3, L, st, g) hf (by show (ptgt pc off).map _ = _; rw [ht, h]; rfl) (k2 (fun q => by have := (icmp_z (c := c) (b := 0) ra (by omega)).mpr q; rw [iI_0, h] at this; cases this))
end BG
section PB9
variable {p : Program} {l : Launch} {e : Env} {R : Room} {s : State} {m : MethodId} {args : Array Value} {below : List Frame} {meth : Method} {c : Code} {Q : State → Prop} {D : va_G} {A : Nat → Prop} {ka : Nat → Nat} {ws0 : va_W} {c0 s0 nL : Nat} {cc : ByteArray} {own : Nat} {ini : Bool} {K : PK} {d : Nat} {cd : PC}
/-- the machine's own judgement goes backward -/
def PX (p : Program) (l : Launch) (e : Env) (R : Room) (s : State) (m : MethodId) (args : Array Value) (below : List Frame) (meth : Method) (c : Code) (Q : State → Prop) (D : va_G) (A : Nat → Prop) (ka : Nat → Nat) (ws0 : va_W) (c0 s0 nL : Nat) : Nat → PL → List Value → PG → Prop := fun pc L st g => (g.2.1 ≤ c0 + R.cells ∧ g.2.2 ≤ s0 + R.slots) ∧ PW p l e R s m args below meth c Q D A ka ws0 c0 s0 nL pc L st g
theorem pw_bk (hO : ∀ k as g rv g1, CallR K d k as g rv g1 → PMet l K D ka d k as g rv g1) (Ev : EnvOK p R s m args meth c cc own ini nL A ka K) (hRf : d + 1 ≤ R.frames) (hRl : 60 * (d + 1) ≤ R.locals) (hcd : ∀ pc ins len, pfetch cd pc = some (ins, len) → decode cc pc = .ok (ins, len) ∧ lenOK ins len = true) : BkG own ini cd d K (PX p l e R s m args below meth c Q D A ka ws0 c0 s0 nL) := by
  refine ⟨fun pc L st g ins len S hf hs hX => ?_, fun pc L st g ins len k as rest rv g1 hf hp ho hX => ?_⟩
  · have hm := pstep_mono hs
    obtain ⟨⟨r1, r2⟩, hX⟩ := hX
    obtain ⟨d1, d2⟩ := hcd _ _ _ hf
    exact ⟨⟨by omega, by omega⟩, pstep_ok Ev ⟨r1, r2⟩ d1 d2 hs hX⟩
  · obtain ⟨⟨r1, r2⟩, hX⟩ := hX
    obtain ⟨d1, d2⟩ := hcd _ _ _ hf
    have hM := hO _ _ _ _ _ ho
    have m1 := hM.2.1
    have m2 := hM.2.2.1
    exact ⟨⟨by omega, by omega⟩, call_step hO Ev hRf hRl d1 d2 hp ho ⟨r1, r2⟩ hX⟩
end PB9
/-! the two statics that a thrown object is laid from, and what is castable -/
def isCast : Cond → Bool
  | .castable .. => true
  | .declares _ => true
  | _ => false
def CW : List Cond := lw_tbl.filter isCast
theorem cw_warm {w : Cond} (hw : w ∈ CW) {s U : State} (hW : s.WarmedH U.vm) (h : va_Nw w s) : va_Nw w U := by
  have h1 := (List.mem_filter.mp hw).2
  cases w with
  | castable a b => exact va_Nw.warmC hW h
  | declares a => exact va_Nw.warmD hW h
  | _ => simp [isCast] at h1
theorem cw_same {w : Cond} (hw : w ∈ CW) {s U : State} (hv : s.vm = U.vm) (h : va_Nw w s) : va_Nw w U := by
  have h1 := (List.mem_filter.mp hw).2
  cases w with
  | castable a b => exact va_Nw.same rfl hv h
  | declares a => exact va_Nw.same rfl hv h
  | _ => simp [isCast] at h1
theorem cw_use {w : Cond} (hw : w ∈ CW) {s : State} {A : Array Value} (h : va_Nw w s) : w.before A s = true := by
  have h1 := (List.mem_filter.mp hw).2
  cases w with
  | castable a b => exact va_Nw.use (A := A) rfl h
  | declares a => exact va_Nw.use (A := A) rfl h
  | _ => simp [isCast] at h1
def USt (A : Nat → Prop) (U : State) (H : Heap) : Prop := vx_Zq Bundle.tN "UNASSIGNED_STACK" Bundle.steD A U H ∧ vx_Zq Bundle.tN "SUPPRESSED_SENTINEL" Bundle.listD A U H ∧ ∀ w ∈ CW, va_Nw w U
theorem USt.to {A B : Nat → Prop} {s U : State} {H : Heap} {locs : List Loc} (h : USt A s s.heap) (hS : va_S A s.heap H locs) (hW : s.WarmedH U.vm) (hU : U.heap = H) (hB : ∀ q, B q → A q) : USt B U U.heap := by
  rw [hU]
  exact ⟨((h.1.kept hS.2.1).moved hW.alike).narrow hB, ((h.2.1.kept hS.2.1).moved hW.alike).narrow hB, fun w hw => cw_warm hw hW (h.2.2 w hw)⟩
def PPx (K : PK) (D : va_G) (ka : Nat → Nat) (ws : va_W) (tys : List (ClassId × FieldType)) (sz : Nat) (U : State) : Prop := PP K D ka ws tys sz U ∧ USt (va_A ws sz) U U.heap
theorem PPx_blind {K : PK} {D : va_G} {ka : Nat → Nat} {ws : va_W} {tys : List (ClassId × FieldType)} {sz : Nat} {av : List Value} : FrameBlind (va_Pc av (PPx K D ka ws tys sz)) := by
  intro a U g mk h
  obtain ⟨h0, h1, h2⟩ := h
  have ha : U.vm.Alike (U.calling g mk a).vm := Vm.Alike.refl U.vm
  have hb := PP_blind (K := K) (D := D) (ka := ka) (ws := ws) (tys := tys) (sz := sz) (av := av) a U g mk ⟨h0, h1⟩
  exact ⟨hb.1, hb.2, vx_Zq.moved (u := U) (U := U.calling g mk a) ha h2.1, vx_Zq.moved (u := U) (U := U.calling g mk a) ha h2.2.1, fun w hw => cw_same (s := U) (U := U.calling g mk a) hw rfl (h2.2.2 w hw)⟩
def nse : String := "java/util/NoSuchElementException"
def exN : List String := ["java/lang/RuntimeException", "java/lang/Exception"]
theorem ex_good : ((vx_at0 (cnm 10) 128 nse exN).all (fun w => goodWord w || isCast w)) = true := by decide +kernel
theorem ex_in : ∀ w ∈ vx_at0 (cnm 10) 128 nse exN, w ∈ lw_tbl := by decide +kernel
theorem ex_at {s : State} {A : Array Value} (hts : ∀ w ∈ GW, w.before A s = true) (hc : ∀ w ∈ CW, va_Nw w s) : ∀ w ∈ vx_at0 (cnm 10) 128 nse exN, w.before A s = true := fun w hw => by
  have h1 := List.all_eq_true.mp ex_good w hw
  cases hg : goodWord w with
  | true => exact hts w (List.mem_filter.mpr ⟨ex_in w hw, hg⟩)
  | false =>
    rw [hg, Bool.false_or] at h1
    have hm : w ∈ CW := List.mem_filter.mpr ⟨ex_in w hw, h1⟩
    exact cw_use hm (hc w hm)
theorem ex_cl : Cond.classLink (cnm 10) 126 nse ∈ GW := by decide +kernel
theorem ex_in2 : Cond.initialized nse ∈ GW := by decide +kernel
/-- what a throw leaves -/
def XB (D : va_G) (ka : Nat → Nat) (ws : va_W) (A : Nat → Prop) (h : List PO) : String → State → State → Prop := vx_X (S := va_W × List (ClassId × FieldType)) (fun u => Ext ws u.1 ∧ HRel ka u.1 u.2 h ∧ va_D A u.1) (fun E u t => E = nse ∧ va_P D classes u.1 t.heap ∧ va_K D classes u.2 t) A
def QN (A : Nat → Prop) : Array Value → State → Outcome → State → Prop := va_Qi (S := Unit) (fun _ _ => False) (fun _ _ => True) A
/-- brigade of the class throws -/
def ThB (K : PK) (x y : Int) (g : PG) : Prop := (CallR K 58 139 [.ref 0, .int (iI x)] g (some (.int 0)) g ∨ CallR K 58 139 [.ref 0, .int (iI x)] g (some (.int 1)) g ∧ (y < 0 ∨ 5 < y)) ∧ -2147483648 ≤ y ∧ y < 2147483648 ∧ ∃ fs, g.1[0]? = some (.inr (10, fs))
theorem xb_thr {l : Launch} {K : PK} {D : va_G} {ka : Nat → Nat} (hl : l.stackTraces = false) (hO : ∀ k as g rv g1, CallR K 58 k as g rv g1 → PMet l K D ka 58 k as g rv g1) {x y : Int} {g : PG} (hth : ThB K x y g) (ws : va_W) (tys : List (ClassId × FieldType)) (sz : Nat) (av : List Value) (hH : HRel ka ws tys g.1) (hT : SRel ka ws [.ref 0, .int (iI x), .int (iI y)] av) : vx_Met l (miN 109) (mws 109) (rmD 59 1 6) (va_Pc av (PPx K D ka ws tys sz)) (QN (va_A ws sz)) (XB D ka ws (va_A ws sz) g.1) 1 6 (va_A ws sz) := by
  have hm9 : mrec 109 = (miN 109, (mrec 109).2.1, 3, some .int, 10) := by decide +kernel
  have hk9 : (109 : Nat) < mthL.length := by decide +kernel
  have hc9 : codeT.getD 109 [] = cd109 := rfl
  have hcd := code_at hk9
  rw [hc9] at hcd
  refine vx_ofW (cc := byAt (mrec 109).2.1) (maxL := (mrec 109).2.2.1) (ret := (mrec 109).2.2.2.1) (ws' := GW) (by decide +kernel) rfl ?_
  intro p en s m args below meth c s₁ B hml htab hv
  obtain ⟨rfl, ⟨hsz, hP, hK, hD, hCE, hNW⟩, hUS⟩ := hv
  have hml3 : c.maxLocals = 3 := by rw [hml, hm9]
  have hts0 := atoms_spec (ws := mws 109) B.pre
  have hts : ∀ w ∈ GW, w.before av.toArray s = true := fun w hw => hts0 w (List.mem_cons_of_mem _ hw)
  have hown : s.vm.findClass (cnm 10) = some m.cls := findClass_of_methodNamed (x := miN 109) B.named
  have Ev : EnvOK p (rmD 59 1 6) s m av.toArray meth c (byAt (mrec 109).2.1) 10 false 3 (va_A ws sz) ka K := ⟨B.exec, B.bytes, hml3, hown, hts, hNW, hCE, fun q hq => Or.inr (by rw [← hsz]; exact hq), (fun h => absurd h (by decide)), by show 1 ≤ 59; omega, by show 60 ≤ 60 * 59; omega⟩
  have H := pw_bk (e := en) (below := below) (Q := vx_MQ below (QN (va_A ws sz)) (XB D ka ws (va_A ws sz) g.1) av.toArray s 1 6 (va_A ws sz)) (ws0 := ws) (c0 := g.2.1) (s0 := g.2.2) (cd := cd109) hO Ev (Nat.le_refl 59) (Nat.le_refl (60 * 59)) hcd
  have h17 : ∀ L : PL, PX p l en (rmD 59 1 6) s m av.toArray below meth c (vx_MQ below (QN (va_A ws sz)) (XB D ka ws (va_A ws sz) g.1) av.toArray s 1 6 (va_A ws sz)) D (va_A ws sz) ka ws g.2.1 g.2.2 3 17 L [] g := by
    intro L
    refine ⟨⟨Nat.le_add_right _ _, Nat.le_add_right _ _⟩, ?_⟩
    intro ws' tys' H1 locs ls st1 hP' hK' hD' hS hH' hL' hT' hE hc hs
    rw [hT'.nil]
    have hls : ls.size = c.maxLocals := by obtain ⟨-, lv, hlv, -⟩ := hL'; rw [hml3]; exact hlv.1
    refine vx_throw0 (cc := byAt (mrec 109).2.1) (own := cnm 10) (cls := nse) (names := exN) (ik := 126) (ic := 128) (A := va_A ws sz) B.exec B.bytes hl hown (by decide +kernel) (by decide +kernel) (hts _ ex_cl) (hts _ ex_in2) (ex_at hts hUS.2.2) ?_ hUS.1 hUS.2.1 hS hls ?_ ?_ ?_ ?_ (fun z hz => (htab z hz).elim) (by decide) (by decide) (by show g.2.1 - g.2.1 + 1 ≤ 1; omega) (by show g.2.2 - g.2.2 + 6 ≤ 6; omega) B.notSynchronized ?_ (fun z hz => hS.2.2 z hz) (by omega) (by omega)
    · decide +kernel
    · decide +kernel
    · decide +kernel
    · decide +kernel
    · decide +kernel
    · intro t hal hsz2 hkeep
      refine ⟨(ws', tys'), ⟨hE, hH', hD'⟩, ⟨rfl, hP'.kept (fun k9 z hz => hkeep z.1 ((hP' k9 z hz).lt)), va_K.moved hal hK'⟩, Nat.le_trans hS.1 hsz2, fun q h1 h2 => ?_⟩
      rw [hkeep q (Nat.lt_of_lt_of_le h1 hS.1)]
      exact hS.2.1 q h1 h2
  have hPX : PX p l en (rmD 59 1 6) s m av.toArray below meth c (vx_MQ below (QN (va_A ws sz)) (XB D ka ws (va_A ws sz) g.1) av.toArray s 1 6 (va_A ws sz)) D (va_A ws sz) ka ws g.2.1 g.2.2 3 0 (pinit 3 [.ref 0, .int (iI x), .int (iI y)]) [] g := by
    obtain ⟨hth, ry1, ry2, fs, hfs⟩ := hth
    refine H.seg 2 (pc' := 2) (L' := [some (.ref 0), some (.int (iI x)), some (.int (iI y))]) (st' := [.int (iI x), .ref 0]) (g1 := g) rfl ?_
    rcases hth with h0 | ⟨h1, hy⟩
    · refine H.callV rfl rfl rfl hfs rfl rfl h0 ?_
      exact H.seg 1 (pc' := 17) (st' := []) (g1 := g) rfl (h17 _)
    · refine H.callV rfl rfl rfl hfs rfl rfl h1 ?_
      refine H.seg 2 (pc' := 9) (L' := [some (.ref 0), some (.int (iI x)), some (.int (iI y))]) (st' := [.int (iI y)]) (g1 := g) rfl ?_
      refine H.if1 (t := 17) rfl rfl rfl ⟨ry1, ry2⟩ (fun _ => h17 _) (fun hn => ?_)
      refine H.seg 2 (pc' := 14) (L' := [some (.ref 0), some (.int (iI x)), some (.int (iI y))]) (st' := [.int (iI 5), .int (iI y)]) (g1 := g) rfl ?_
      refine H.if2 (t := 25) rfl rfl rfl rfl ⟨ry1, ry2⟩ (by omega) (fun hle => ?_) (fun _ => h17 _)
      have e1 : ¬ (y < 0) := hn
      have e2 : y ≤ 5 := hle
      omega
  have h0 := hPX.2 ws tys s.heap [] _ [] hP hK hD.self va_S.rf hH (LRel.init (n := 3) hT (Nat.le_refl 3)) trivial Ext.rf (Nat.le_refl _) (Nat.le_refl _)
  rw [Nat.sub_self, Nat.sub_self] at h0
  rw [lg_entry_eq]
  exact h0
