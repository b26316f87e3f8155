/-! the pure machine's steps are the machine's: those on the heap -/
def isOver (comp : ClassId) (x : Class) : Bool := match x.kind with
  | .array component _ => component == comp
  | _ => false
theorem isOver_bare (vm : Vm) (comp : ClassId) : vm.bare.classes.findIdx? (isOver comp) = vm.classes.findIdx? (isOver comp) := by
  simp only [Vm.bare, Array.findIdx?_map]
  rfl
/-- what the tables say of arrays of arrays: the array class over the class of ty[] -/
def va_AOA (ty : FieldType) (U : State) : Prop := ∃ (comp c : ClassId) (k : Class), U.vm.findClass (FieldType.array ty).toString = some comp ∧ U.vm.classes.findIdx? (isOver comp) = some c ∧ U.vm.classes[c]? = some k ∧ k.kind = .array comp (.array ty) ∧ U.vm.findClass ("[" ++ (FieldType.array ty).toString) = some c
theorem va_AOA.moved {ty : FieldType} {u U : State} (hvm : u.vm.Alike U.vm) (h : va_AOA ty u) : va_AOA ty U := by
  obtain ⟨comp, c, k, h1, h2, h3, h4, h5⟩ := h
  obtain ⟨k', hk', he⟩ := hvm.2.2 _ _ h3
  have hi : U.vm.classes.findIdx? (isOver comp) = some c := by
    rw [← isOver_bare]
    first | rw [hvm.bare_eq] | rw [← hvm.bare_eq]
    rw [isOver_bare]
    exact h2
  exact ⟨comp, c, k', by rw [hvm.findClass]; exact h1, hi, hk', by rw [he]; exact h4, by rw [hvm.findClass]; exact h5⟩
/-- the constant texts: how long, which bytes -/
def strN : List Nat := [1, 6, 4, 3, 4]
def strB : List (List Int32) := [[121], [100, 104, 99, 102, 111, 107], [120, 104, 99, 102], [97, 110, 112], [112, 115, 107, 113]]
/-- the constants: static arrays, texts, the script; what the tables say of arrays of references -/
def CE (K : PK) (ka : Nat → Nat) (A : Nat → Prop) (U : State) (H : Heap) : Prop :=
  (∀ (n : Nat) (C nm : String), statL[n]? = some (C, nm) → va_Z C nm "[I" (.ref (ka n)) A U H) ∧
  (∀ (n N : Nat) (f : Nat → Int32), K n = some (N, f) → va_T .int (ka n) N (fun j => .int (f j)) A U H) ∧
  (∀ (n : Nat) (own : String) (idx : Nat) (tx : String), strL[n]? = some (own, idx, tx) → vk_R own idx tx (ka (20 + n)) U) ∧
  va_AO "ThreeLadders$Code" U ∧ va_AOA .int U ∧
  (∃ adV, vk_S 5 strN strB (fun i => ka (20 + i)) adV A U H) ∧ va_Z "java/lang/String" "COMPACT_STRINGS" "Z" (.int 1) A U H ∧ (∃ v, (v = .null ∨ ∃ a, v = .ref a) ∧ va_Z "jdk/internal/util/Preconditions" "SIOOBE_FORMATTER" "Ljava/util/function/BiFunction;" v A U H)
def EnvOK (p : Program) (R : Room) (s : State) (m : MethodId) (args : Array Value) (meth : Method) (c : Code) (cc : ByteArray) (own : Nat) (ini : Bool) (nL : Nat) (A : Nat → Prop) (ka : Nat → Nat) (K : PK) : Prop :=
  p.tables.exec = Jvm.exec ∧ c.code = cc ∧ c.maxLocals = nL ∧ s.vm.findClass (cnm own) = some m.cls ∧ (∀ w ∈ GW, w.before args s = true) ∧ (∀ w ∈ NW, va_Nw w s) ∧ CE K ka A s s.heap ∧ (∀ q, s.heap.size ≤ q → A q) ∧ (ini = true → meth.name = "<init>") ∧ 1 ≤ R.frames ∧ 60 ≤ R.locals
def clsOK (ci : Nat) (C : String) (T : u_T) (N : Nat) : Prop := (∀ w ∈ u_ws C T N, w ∈ GW) ∧ (∀ a, a < N → ∀ b, b < N → a ≠ b → (T a).2.1 ≠ (T b).2.1) ∧ (∀ k, k < N → parseFieldDescriptor (T k).2.2.1 = some (tyOf ci k)) ∧ (dfl ci).length = N ∧ (∀ j, j < N → defaultValue (tyOf ci j) = vp_V (dfl ci) j)
theorem cls_ok {ci : Nat} {C : String} {T : u_T} {N : Nat} (h : classes[ci]? = some (C, T, N)) : clsOK ci C T N := by
  match ci, h with
  | 0, h => cases h; exact ⟨gC0, nC0, tC0, rfl, by decide +kernel⟩
  | 1, h => cases h; exact ⟨gC1, nC1, tC1, rfl, by decide +kernel⟩
  | 2, h => cases h; exact ⟨gC2, nC2, tC2, rfl, by decide +kernel⟩
  | 3, h => cases h; exact ⟨gC3, nC3, tC3, rfl, by decide +kernel⟩
  | 4, h => cases h; exact ⟨gC4, nC4, tC4, rfl, by decide +kernel⟩
  | 5, h => cases h; exact ⟨gC5, nC5, tC5, rfl, by decide +kernel⟩
  | 6, h => cases h; exact ⟨gC6, nC6, tC6, rfl, by decide +kernel⟩
  | 7, h => cases h; exact ⟨gC7, nC7, tC7, rfl, by decide +kernel⟩
  | 8, h => cases h; exact ⟨gC8, nC8, tC8, rfl, by decide +kernel⟩
  | 9, h => cases h; exact ⟨gC9, nC9, tC9, rfl, by decide +kernel⟩
  | 10, h => cases h; exact ⟨gC10, nC10, tC10, rfl, by decide +kernel⟩
  | 11, h => cases h; exact ⟨gC11, nC11, tC11, rfl, by decide +kernel⟩
  | n + 12, h => simp [classes] at h
section StepB
variable {p : Program} {l : Launch} {e : Env} {R : Room} {s : State} {m : MethodId} {args : Array Value} {below : List Frame} {meth : Method} {c : Code} {Q : State → Prop} {D : va_G} {A : Nat → Prop} {ka : Nat → Nat} {ws0 : va_W} {c0 s0 nL : Nat} {cc : ByteArray} {pc : Nat} {L : PL} {st : List Value} {g : PG} {S : PS} {own : Nat} {ini : Bool} {K : PK}
theorem same_of {C : String} {ref : String} {nm d : String} (hts : ∀ w ∈ GW, w.before args s = true) (h : ref = C ∨ Cond.sameField ref C nm d ∈ GW) : ∀ x, s.fieldFound? C nm d = some x → s.fieldFound? ref nm d = some x := by
  rcases h with h | h
  · subst h
    exact fun _ h => h
  · exact fun x hx => u_same (hts _ h) x hx
theorem w_getfield {i : Nat} (Ev : EnvOK p R s m args meth c cc own ini nL A ka K) (hd : decode cc pc = .ok (.getfield i, 3)) (h : pgetf own i pc L g st = some S) (k : PW p l e R s m args below meth c Q D A ka ws0 c0 s0 nL S.1 S.2.1 S.2.2.1 S.2.2.2) : PW p l e R s m args below meth c Q D A ka ws0 c0 s0 nL pc L st g := by
  obtain ⟨hx, hb, hml, hown, hts, hnw, hCE, hA, hin, -, -⟩ := Ev
  unfold pgetf at h
  split at h
  · next a r =>
    split at h
    · next lc k0 hf =>
      split at h
      · next ci fs hg =>
        cases hl : lc.elem ci with
        | false => rw [hl] at h; cases h
        | true =>
          rw [hl] at h
          dsimp only [cond_true] at h
          split at h
          · next v hv =>
            cases h
            intro ws tys H locs ls st1 hP hK hD hS hH hL hT hE hc hs
            obtain ⟨a1, E1, r1, h1, e1, hT1⟩ := hT.ref
            subst e1
            obtain ⟨fs', e2, hfs⟩ := hH.get hg h1
            subst e2
            obtain ⟨w, hw, hvr⟩ := hfs.at k0 hv
            obtain ⟨C, T, N, ref, hc1, hk1, hlink, hsame⟩ := pfld_ok hf (List.elem_iff.mp hl)
            obtain ⟨hu, -, -, -, -⟩ := cls_ok hc1
            rcases hlink with h5 | ⟨host, h5, -⟩
            · refine va_get hx hb hts hu hown hK hP a h1 hc1 k0 hk1 (hts _ h5) (same_of hts hsame) hw hd ?_
              exact k ws tys H locs ls _ hP hK hD hS hH hL ⟨hvr, hT1⟩ hE hc hs
            · refine va_getN hx hb hts hu hown hK hP a h1 hc1 k0 hk1 (va_Nw.use rfl (hnw _ h5)) (same_of hts hsame) hw hd ?_
              exact k ws tys H locs ls _ hP hK hD hS hH hL ⟨hvr, hT1⟩ hE hc hs
          · cases h
      · cases h
    · cases h
  · cases h
theorem pfit_ok {ty : FieldType} {v w : Value} {ws : va_W} (h : pfit ty v = true) (hv : VRel ka ws v w) : narrow ty w = w ∧ fits ty w = true := by
  unfold pfit at h
  split at h
  · rw [show w = _ from hv]
    simp only [Bool.or_eq_true, beq_iff_eq] at h
    rcases h with h | h <;> (rw [h]; exact ⟨rfl, rfl⟩)
  · rw [show w = _ from hv]; exact ⟨rfl, rfl⟩
  · rw [show w = _ from hv]; exact ⟨rfl, rfl⟩
  · obtain ⟨a, E, -, h2⟩ := hv; rw [h2]; exact ⟨rfl, rfl⟩
  · rw [show w = _ from hv]; exact ⟨rfl, rfl⟩
  · rw [show w = _ from hv]; exact ⟨rfl, rfl⟩
  · obtain ⟨a, E, -, h2⟩ := hv; rw [h2]; exact ⟨rfl, rfl⟩
  · rw [show w = _ from hv]; exact ⟨rfl, rfl⟩
  · rw [show w = _ from hv]; exact ⟨rfl, rfl⟩
  · cases h
theorem w_putfield {i : Nat} (Ev : EnvOK p R s m args meth c cc own ini nL A ka K) (hd : decode cc pc = .ok (.putfield i, 3)) (h : pputf own ini i pc L g st = some S) (k : PW p l e R s m args below meth c Q D A ka ws0 c0 s0 nL S.1 S.2.1 S.2.2.1 S.2.2.2) : PW p l e R s m args below meth c Q D A ka ws0 c0 s0 nL pc L st g := by
  obtain ⟨hx, hb, hml, hown, hts, hnw, hCE, hA, hin, -, -⟩ := Ev
  unfold pputf at h
  split at h
  · next v a r =>
    split at h
    · next lc k0 hf =>
      split at h
      · next ci fs hg =>
        cases hl : lc.elem ci && (pfit (tyOf ci k0) v && (pfin own ini ci k0 && Nat.ble (k0 + 1) fs.length)) with
        | false => rw [hl] at h; cases h
        | true =>
          rw [hl] at h
          cases h
          simp only [Bool.and_eq_true] at hl
          obtain ⟨hl1, hl2, hl3, hl4⟩ := hl
          intro ws tys H locs ls st1 hP hK hD hS hH hL hT hE hc hs
          obtain ⟨w, r0, e0, hv, hT0⟩ := hT.cons
          obtain ⟨a1, E1, r1, h1, e1, hT1⟩ := hT0.ref
          subst e1
          subst e0
          obtain ⟨fs', e2, hfs⟩ := hH.get hg h1
          subst e2
          obtain ⟨C, T, N, ref, hc1, hk1, hlink, hsame⟩ := pfld_ok hf (List.elem_iff.mp hl1)
          obtain ⟨hu, hnm, hty, -, -⟩ := cls_ok hc1
          obtain ⟨hnar, hfit⟩ := pfit_ok hl2 hv
          have hlen : k0 < fs'.length := by rw [hfs.len]; exact Nat.le_of_ble_eq_true hl4
          have hEx := Ext.set h1 (.inr (ci, fs'.set k0 w))
          have hH1 : HRel ka (ws.set a (a1, .inr (ci, fs'.set k0 w))) tys (g.1.set a (.inr (ci, fs.set k0 v))) := hH.put h1 ⟨_, rfl, hfs.setAt k0 hv⟩
          unfold pfin at hl3
          rw [hc1] at hl3
          dsimp only at hl3
          rcases hlink with h5 | ⟨host, h5, h6⟩
          · cases hfn : (T k0).2.2.2 with
            | false =>
              refine va_put hx hb hts hu (tyOf ci) hty hnm hown hK hP hD hS a h1 hc1 k0 hk1 (hts _ h5) (same_of hts hsame) hfn (hty k0 hk1) hnar hfit hlen hd (fun H1 locs1 hP1 hD1 hS1 => ?_)
              exact k _ tys H1 locs1 ls _ hP1 hK hD1 hS1 hH1 (hL.ext hEx) (hT1.ext hEx) (hE.trans hEx) hc hs
            | true =>
              rw [hfn] at hl3
              simp only [cond_true, Bool.and_eq_true, decide_eq_true_eq] at hl3
              refine va_putF hx hb hts hu (tyOf ci) hty hnm hown hK hP hD hS a h1 hc1 k0 hk1 (hts _ h5) (same_of hts hsame) hfn (hin hl3.1) hl3.2 (hty k0 hk1) hnar hfit hlen hd (fun H1 locs1 hP1 hD1 hS1 => ?_)
              exact k _ tys H1 locs1 ls _ hP1 hK hD1 hS1 hH1 (hL.ext hEx) (hT1.ext hEx) (hE.trans hEx) hc hs
          · cases hfn : (T k0).2.2.2 with
            | false =>
              refine va_putN hx hb hts hu (tyOf ci) hty hnm hown hK hP hD hS a h1 hc1 k0 hk1 (va_Nw.use rfl (hnw _ h5)) (same_of hts hsame) hfn (hty k0 hk1) hnar hfit hlen hd (fun H1 locs1 hP1 hD1 hS1 => ?_)
              exact k _ tys H1 locs1 ls _ hP1 hK hD1 hS1 hH1 (hL.ext hEx) (hT1.ext hEx) (hE.trans hEx) hc hs
            | true =>
              rw [hfn] at hl3
              simp only [cond_true, Bool.and_eq_true, decide_eq_true_eq] at hl3
              exact absurd hl3.2 h6
      · cases h
    · cases h
  · cases h
theorem w_getstatic {i : Nat} (Ev : EnvOK p R s m args meth c cc own ini nL A ka K) (hd : decode cc pc = .ok (.getstatic i, 3)) (h : pgets (pstat own i) (pc + 3) L st g = some S) (k : PW p l e R s m args below meth c Q D A ka ws0 c0 s0 nL S.1 S.2.1 S.2.2.1 S.2.2.2) : PW p l e R s m args below meth c Q D A ka ws0 c0 s0 nL pc L st g := by
  obtain ⟨hx, hb, hml, hown, hts, hnw, hCE, hA, hin, -, -⟩ := Ev
  unfold pgets at h
  cases hp : pstat own i with
  | none => rw [hp] at h; cases h
  | some n =>
    rw [hp] at h
    cases h
    intro ws tys H locs ls st1 hP hK hD hS hH hL hT hE hc hs
    obtain ⟨C, nm, h1, h2⟩ := pstat_ok hp
    rcases h2 with h3 | ⟨host, h3⟩
    · refine va_gets hx hb (hCE.1 n C nm h1) hS hown (hts _ h3) (fun _ h => h) hd ?_
      exact k ws tys H locs ls _ hP hK hD hS hH hL ⟨rfl, hT⟩ hE hc hs
    · refine va_getsN hx hb (hCE.1 n C nm h1) hS hown (va_Nw.use rfl (hnw _ h3)) (fun _ h => h) hd ?_
      exact k ws tys H locs ls _ hP hK hD hS hH hL ⟨rfl, hT⟩ hE hc hs
theorem my_ldcw {T : State} {locs : List Loc} {cells slots : Nat} (X : Stand p l e R s m args below meth c T locs cells slots) (hexec : p.tables.exec = Jvm.exec) {own text : String} {index : Nat} {a : Addr} (hown : s.vm.findClass own = some m.cls)
    (hconst : (Cond.stringRef own index text).before #[] s = true) (hev : (Term.string own index).eval #[] s none [] s = some (.ref a)) {f : JFrame} (hg : f.method = m) (hdg : decode c.code f.pc = .ok (.ldc_w index, 3)) :
    ∀ target, Steps p.tables e below (T.setTop { f with pc := f.pc + 3, stack := .ref a :: f.stack }) target → Steps p.tables e below (T.setTop f) target := by
  obtain ⟨k, cf, i, a', hk, hcf, hcp, -, hr, hev'⟩ := Cond.stringRef_spec hown hconst
  cases hev.symm.trans hev'
  obtain ⟨k', hk', he⟩ := X.warmed.alike.2.2 _ _ hk
  have hr' : k'.resolved[index]? = some (some (.string a)) := by
    rcases X.warmed.entry hk hk' index with h | ⟨h, -⟩
    · rw [h]; exact hr
    · rw [hr] at h; cases h
  intro target hrest
  subst hg
  jvm_step X.here [hexec, hdg, ldc_w.wp_string (e := e) (s := T) (f := f) X.here.top hk' (by rw [he]; exact hcf) hcp hr']
  exact hrest
theorem w_ldc {i : Nat} (Ev : EnvOK p R s m args meth c cc own ini nL A ka K) (hd : decode cc pc = .ok (.ldc i, 2)) (h : pldcv (pldc own i) (pc + 2) L st g = some S) (k : PW p l e R s m args below meth c Q D A ka ws0 c0 s0 nL S.1 S.2.1 S.2.2.1 S.2.2.2) : PW p l e R s m args below meth c Q D A ka ws0 c0 s0 nL pc L st g := by
  obtain ⟨hx, hb, hml, hown, hts, hnw, hCE, hA, hin, -, -⟩ := Ev
  unfold pldcv at h
  split at h
  · next x hp =>
    cases h
    intro ws tys H locs ls st1 hP hK hD hS hH hL hT hE hc hs
    have hw : Cond.constant (cnm own) i x ∈ GW := pldc_ok hp
    refine lv_ldc hx hb hown (hts _ hw) hd ?_
    exact k ws tys H locs ls _ hP hK hD hS hH hL ⟨rfl, hT⟩ hE hc hs
  · next n hp =>
    cases h
    intro ws tys H locs ls st1 hP hK hD hS hH hL hT hE hc hs
    obtain ⟨tx, hn, hw⟩ : ∃ tx, 20 ≤ n ∧ strL[n - 20]? = some (cnm own, i, tx) := pldc_ok hp
    have hR := hCE.2.2.1 _ _ _ _ hw
    rw [show 20 + (n - 20) = n by omega] at hR
    refine va_ldcS hx hb hown hR hd ?_
    exact k ws tys H locs ls _ hP hK hD hS hH hL ⟨rfl, hT⟩ hE hc hs
  · cases h
theorem w_ldc_w {i : Nat} (Ev : EnvOK p R s m args meth c cc own ini nL A ka K) (hd : decode cc pc = .ok (.ldc_w i, 3)) (h : pldcv (pldc own i) (pc + 3) L st g = some S) (k : PW p l e R s m args below meth c Q D A ka ws0 c0 s0 nL S.1 S.2.1 S.2.2.1 S.2.2.2) : PW p l e R s m args below meth c Q D A ka ws0 c0 s0 nL pc L st g := by
  obtain ⟨hx, hb, hml, hown, hts, hnw, hCE, hA, hin, -, -⟩ := Ev
  unfold pldcv at h
  split at h
  · next x hp =>
    cases h
    intro ws tys H locs ls st1 hP hK hD hS hH hL hT hE hc hs
    have hw : Cond.constant (cnm own) i x ∈ GW := pldc_ok hp
    refine lv_ldcw hx hb hown (hts _ hw) hd ?_
    exact k ws tys H locs ls _ hP hK hD hS hH hL ⟨rfl, hT⟩ hE hc hs
  · next n hp =>
    cases h
    intro ws tys H locs ls st1 hP hK hD hS hH hL hT hE hc hs
    obtain ⟨tx, hn, hw⟩ : ∃ tx, 20 ≤ n ∧ strL[n - 20]? = some (cnm own, i, tx) := pldc_ok hp
    have hR := hCE.2.2.1 _ _ _ _ hw
    rw [show 20 + (n - 20) = n by omega] at hR
    have k1 := k ws tys H locs ls (.ref (ka n) :: st1) hP hK hD hS hH hL (show SRel ka ws (.retAddr n :: st) (.ref (ka n) :: st1) from ⟨rfl, hT⟩) hE hc hs
    intro T hTh X
    obtain ⟨t, a1, b1⟩ := k1 T hTh X
    exact ⟨t, my_ldcw X hx hown hR.1 hR.2 (f := F0 m pc ls st1) rfl (by rw [hb]; exact hd) t a1, b1⟩
  · cases h
theorem w_ldc2 {i : Nat} (Ev : EnvOK p R s m args meth c cc own ini nL A ka K) (hd : decode cc pc = .ok (.ldc2_w i, 3)) (h : pldcl (pldc own i) (pc + 3) L st g = some S) (k : PW p l e R s m args below meth c Q D A ka ws0 c0 s0 nL S.1 S.2.1 S.2.2.1 S.2.2.2) : PW p l e R s m args below meth c Q D A ka ws0 c0 s0 nL pc L st g := by
  obtain ⟨hx, hb, hml, hown, hts, hnw, hCE, hA, hin, -, -⟩ := Ev
  unfold pldcl at h
  split at h
  · next x hp =>
    cases h
    intro ws tys H locs ls st1 hP hK hD hS hH hL hT hE hc hs
    have hw : Cond.constantLong (cnm own) i x ∈ GW := pldc_ok hp
    refine lv_ldc2 hx hb hown (hts _ hw) hd ?_
    exact k ws tys H locs ls _ hP hK hD hS hH hL ⟨rfl, hT⟩ hE hc hs
  · cases h
theorem CRel.arr {ws : va_W} {tys : List (ClassId × FieldType)} {t : Nat} {x : vp_A} {E : va_E} (h : CRel ka ws tys (.inl (t, x)) E) : ∃ cA x', E = .inl (cA, x') ∧ x'.1 = x.1 ∧ (cA, aty t) ∈ tys := by
  obtain ⟨n, x⟩ := x
  match x, h with
  | .inl f, ⟨cA, h1, h2⟩ => exact ⟨cA, _, h1, rfl, h2⟩
  | .inr (.inl f), ⟨cA, h1, h2⟩ => exact ⟨cA, _, h1, rfl, h2⟩
  | .inr (.inr (.inr (.inr f))), ⟨cA, f', h1, h2, h3⟩ => exact ⟨cA, _, h1, rfl, h2⟩
theorem w_alen (Ev : EnvOK p R s m args meth c cc own ini nL A ka K) (hd : decode cc pc = .ok (.arraylength, 1)) (h : palen K (pc + 1) L g st = some S) (k : PW p l e R s m args below meth c Q D A ka ws0 c0 s0 nL S.1 S.2.1 S.2.2.1 S.2.2.2) : PW p l e R s m args below meth c Q D A ka ws0 c0 s0 nL pc L st g := by
  obtain ⟨hx, hb, hml, hown, hts, hnw, hCE, hA, hin, -, -⟩ := Ev
  unfold palen at h
  split at h
  · split at h
    · next hg =>
      cases h
      intro ws tys H locs ls st1 hP hK hD hS hH hL hT hE hc hs
      obtain ⟨a1, E1, r1, h1, e1, hT1⟩ := hT.ref
      subst e1
      obtain ⟨cA, x', e2, h2, h3⟩ := (hH.get hg h1).arr
      subst e2
      obtain ⟨t0, ht0⟩ := List.getElem?_of_mem h3
      refine va_alen hx hb hK hP _ t0 h1 ht0 (by rw [h2]) hd ?_
      exact k ws tys H locs ls _ hP hK hD hS hH hL ⟨rfl, hT1⟩ hE hc hs
    · cases h
  · split at h
    · next hg =>
      cases h
      intro ws tys H locs ls st1 hP hK hD hS hH hL hT hE hc hs
      obtain ⟨r1, e1, hT1⟩ := hT.con
      subst e1
      refine va_tlen hx hb (hCE.2.1 _ _ _ hg) hS rfl hd ?_
      exact k ws tys H locs ls _ hP hK hD hS hH hL ⟨rfl, hT1⟩ hE hc hs
    · cases h
  · cases h
theorem pin_ok {i : Int32} {n : Nat} (h : pin i n = true) : vp_in i n := show ¬ (i < 0 ∨ n ≤ i.toNatClampNeg) from of_decide_eq_true h
theorem w_iaload (Ev : EnvOK p R s m args meth c cc own ini nL A ka K) (hd : decode cc pc = .ok (.iaload, 1)) (h : piald K (pc + 1) L g st = some S) (k : PW p l e R s m args below meth c Q D A ka ws0 c0 s0 nL S.1 S.2.1 S.2.2.1 S.2.2.2) : PW p l e R s m args below meth c Q D A ka ws0 c0 s0 nL pc L st g := by
  obtain ⟨hx, hb, hml, hown, hts, hnw, hCE, hA, hin, -, -⟩ := Ev
  unfold piald at h
  split at h
  · next i a r =>
    split at h
    · next n f hg =>
      cases hi : pin i n with
      | false => rw [hi] at h; cases h
      | true =>
        rw [hi] at h
        cases h
        intro ws tys H locs ls st1 hP hK hD hS hH hL hT hE hc hs
        obtain ⟨r0, e0, hT0⟩ := hT.int
        obtain ⟨a1, E1, r1, h1, e1, hT1⟩ := hT0.ref
        subst e1
        subst e0
        obtain ⟨cA, e2, h3⟩ := hH.get hg h1
        subst e2
        obtain ⟨t0, ht0⟩ := List.getElem?_of_mem h3
        refine va_iald hx hb hK hP a t0 h1 ht0 (pin_ok hi) hd ?_
        exact k ws tys H locs ls _ hP hK hD hS hH hL ⟨rfl, hT1⟩ hE hc hs
    · cases h
  · next i a r =>
    split at h
    · next n f hg =>
      cases hi : pin i n with
      | false => rw [hi] at h; cases h
      | true =>
        rw [hi] at h
        cases h
        intro ws tys H locs ls st1 hP hK hD hS hH hL hT hE hc hs
        obtain ⟨r0, e0, hT0⟩ := hT.int
        obtain ⟨r1, e1, hT1⟩ := hT0.con
        subst e1
        subst e0
        refine va_ti hx hb (hCE.2.1 _ _ _ hg) hS (pin_ok hi) rfl hd ?_
        exact k ws tys H locs ls _ hP hK hD hS hH hL ⟨rfl, hT1⟩ hE hc hs
    · cases h
  · cases h
theorem w_baload (Ev : EnvOK p R s m args meth c cc own ini nL A ka K) (hd : decode cc pc = .ok (.baload, 1)) (h : pbald (pc + 1) L g st = some S) (k : PW p l e R s m args below meth c Q D A ka ws0 c0 s0 nL S.1 S.2.1 S.2.2.1 S.2.2.2) : PW p l e R s m args below meth c Q D A ka ws0 c0 s0 nL pc L st g := by
  obtain ⟨hx, hb, hml, hown, hts, hnw, hCE, hA, hin, -, -⟩ := Ev
  unfold pbald at h
  split at h
  · next i a r =>
    split at h
    · next n f hg =>
      cases hi : pin i n with
      | false => rw [hi] at h; cases h
      | true =>
        rw [hi] at h
        cases h
        intro ws tys H locs ls st1 hP hK hD hS hH hL hT hE hc hs
        obtain ⟨r0, e0, hT0⟩ := hT.int
        obtain ⟨a1, E1, r1, h1, e1, hT1⟩ := hT0.ref
        subst e1
        subst e0
        obtain ⟨cA, e2, h3⟩ := hH.get hg h1
        subst e2
        obtain ⟨t0, ht0⟩ := List.getElem?_of_mem h3
        refine va_bald hx hb hK hP a t0 h1 ht0 (pin_ok hi) hd ?_
        exact k ws tys H locs ls _ hP hK hD hS hH hL ⟨rfl, hT1⟩ hE hc hs
    · cases h
  · cases h
theorem w_laload (Ev : EnvOK p R s m args meth c cc own ini nL A ka K) (hd : decode cc pc = .ok (.laload, 1)) (h : plald (pc + 1) L g st = some S) (k : PW p l e R s m args below meth c Q D A ka ws0 c0 s0 nL S.1 S.2.1 S.2.2.1 S.2.2.2) : PW p l e R s m args below meth c Q D A ka ws0 c0 s0 nL pc L st g := by
  obtain ⟨hx, hb, hml, hown, hts, hnw, hCE, hA, hin, -, -⟩ := Ev
  unfold plald at h
  split at h
  · next i a r =>
    split at h
    · next n f hg =>
      cases hi : pin i n with
      | false => rw [hi] at h; cases h
      | true =>
        rw [hi] at h
        cases h
        intro ws tys H locs ls st1 hP hK hD hS hH hL hT hE hc hs
        obtain ⟨r0, e0, hT0⟩ := hT.int
        obtain ⟨a1, E1, r1, h1, e1, hT1⟩ := hT0.ref
        subst e1
        subst e0
        obtain ⟨cA, e2, h3⟩ := hH.get hg h1
        subst e2
        obtain ⟨t0, ht0⟩ := List.getElem?_of_mem h3
        refine va_lald hx hb hK hP a t0 h1 ht0 (pin_ok hi) hd ?_
        exact k ws tys H locs ls _ hP hK hD hS hH hL ⟨rfl, hT1⟩ hE hc hs
    · cases h
  · cases h
theorem aty_ref {t : Nat} (h : 3 ≤ t) : (aty t).isReference = true := by
  match t, h with
  | 3, _ => rfl
  | t + 4, _ => rfl
theorem w_aaload (Ev : EnvOK p R s m args meth c cc own ini nL A ka K) (hd : decode cc pc = .ok (.aaload, 1)) (h : paald (pc + 1) L g st = some S) (k : PW p l e R s m args below meth c Q D A ka ws0 c0 s0 nL S.1 S.2.1 S.2.2.1 S.2.2.2) : PW p l e R s m args below meth c Q D A ka ws0 c0 s0 nL pc L st g := by
  obtain ⟨hx, hb, hml, hown, hts, hnw, hCE, hA, hin, -, -⟩ := Ev
  unfold paald at h
  split at h
  · next i a r =>
    split at h
    · next t n f hg =>
      cases hi : pin i n && Nat.ble 3 t with
      | false => rw [hi] at h; cases h
      | true =>
        rw [hi] at h
        cases h
        rw [Bool.and_eq_true] at hi
        intro ws tys H locs ls st1 hP hK hD hS hH hL hT hE hc hs
        obtain ⟨r0, e0, hT0⟩ := hT.int
        obtain ⟨a1, E1, r1, h1, e1, hT1⟩ := hT0.ref
        subst e1
        subst e0
        obtain ⟨cA, f', e2, h3, h4⟩ := hH.get hg h1
        subst e2
        obtain ⟨t0, ht0⟩ := List.getElem?_of_mem h3
        have hlt : i.toNatClampNeg < n := Nat.not_le.mp fun q => pin_ok hi.1 (Or.inr q)
        have hv : VRel ka ws (va_rf (f i.toNatClampNeg)) (va_rf (f' i.toNatClampNeg)) := by
          have h5 := h4 _ hlt
          cases hf : f i.toNatClampNeg with
          | none =>
            rw [hf] at h5
            cases hf' : f' i.toNatClampNeg with
            | none => exact rfl
            | some b => rw [hf'] at h5; exact h5.elim
          | some q =>
            rw [hf] at h5
            cases hf' : f' i.toNatClampNeg with
            | none => rw [hf'] at h5; exact h5.elim
            | some b =>
              rw [hf'] at h5
              obtain ⟨E, h6⟩ := h5
              exact ⟨b, E, h6, rfl⟩
        refine W.aald (v := va_rf (f' i.toNatClampNeg)) (ty := aty t) hx hb (hP a _ h1) ((hK.2 t0 _ ht0).1 n (fun j => va_rf (f' j))) (aty_ref (Nat.le_of_ble_eq_true hi.2)) (fun q => by cases q) (by show ¬ (i < 0 ∨ (arrV _ _ _).slots.size ≤ _); rw [arrV_size]; exact pin_ok hi.1) (by show (arrV _ _ _).slots[_]? = _; rw [arrV_read _ _ hlt]) rfl rfl hd ?_
        exact k ws tys H locs ls _ hP hK hD hS hH hL ⟨hv, hT1⟩ hE hc hs
    · cases h
  · cases h
theorem w_iastore (Ev : EnvOK p R s m args meth c cc own ini nL A ka K) (hd : decode cc pc = .ok (.iastore, 1)) (h : piast (pc + 1) L g st = some S) (k : PW p l e R s m args below meth c Q D A ka ws0 c0 s0 nL S.1 S.2.1 S.2.2.1 S.2.2.2) : PW p l e R s m args below meth c Q D A ka ws0 c0 s0 nL pc L st g := by
  obtain ⟨hx, hb, hml, hown, hts, hnw, hCE, hA, hin, -, -⟩ := Ev
  unfold piast at h
  split at h
  · next x i a r =>
    split at h
    · next n f hg =>
      cases hi : pin i n with
      | false => rw [hi] at h; cases h
      | true =>
        rw [hi] at h
        cases h
        intro ws tys H locs ls st1 hP hK hD hS hH hL hT hE hc hs
        obtain ⟨r00, e00, hT00⟩ := hT.int
        obtain ⟨r0, e0, hT0⟩ := hT00.int
        obtain ⟨a1, E1, r1, h1, e1, hT1⟩ := hT0.ref
        subst e1
        subst e0
        subst e00
        obtain ⟨cA, e2, h3⟩ := hH.get hg h1
        subst e2
        obtain ⟨t0, ht0⟩ := List.getElem?_of_mem h3
        have hEx := Ext.set h1 (.inl (cA, n, .inl (upd f i.toNatClampNeg x)))
        refine va_iast hx hb hK hP hD hS a t0 h1 ht0 (pin_ok hi) hd (fun H1 locs1 hP1 hD1 hS1 => ?_)
        exact k _ tys H1 locs1 ls _ hP1 hK hD1 hS1 (hH.put h1 ⟨cA, rfl, h3⟩) (hL.ext hEx) (hT1.ext hEx) (hE.trans hEx) hc hs
    · cases h
  · cases h
theorem w_bastore (Ev : EnvOK p R s m args meth c cc own ini nL A ka K) (hd : decode cc pc = .ok (.bastore, 1)) (h : pbast (pc + 1) L g st = some S) (k : PW p l e R s m args below meth c Q D A ka ws0 c0 s0 nL S.1 S.2.1 S.2.2.1 S.2.2.2) : PW p l e R s m args below meth c Q D A ka ws0 c0 s0 nL pc L st g := by
  obtain ⟨hx, hb, hml, hown, hts, hnw, hCE, hA, hin, -, -⟩ := Ev
  unfold pbast at h
  split at h
  · next x i a r =>
    split at h
    · next n f hg =>
      cases hi : pin i n with
      | false => rw [hi] at h; cases h
      | true =>
        rw [hi] at h
        cases h
        intro ws tys H locs ls st1 hP hK hD hS hH hL hT hE hc hs
        obtain ⟨r00, e00, hT00⟩ := hT.int
        obtain ⟨r0, e0, hT0⟩ := hT00.int
        obtain ⟨a1, E1, r1, h1, e1, hT1⟩ := hT0.ref
        subst e1
        subst e0
        subst e00
        obtain ⟨cA, e2, h3⟩ := hH.get hg h1
        subst e2
        obtain ⟨t0, ht0⟩ := List.getElem?_of_mem h3
        have hEx := Ext.set h1 (.inl (cA, n, .inl (upd f i.toNatClampNeg (vp_nar .byte x))))
        refine va_bast hx hb hK hP hD hS a t0 h1 ht0 (pin_ok hi) hd (fun H1 locs1 hP1 hD1 hS1 => ?_)
        exact k _ tys H1 locs1 ls _ hP1 hK hD1 hS1 (hH.put h1 ⟨cA, rfl, h3⟩) (hL.ext hEx) (hT1.ext hEx) (hE.trans hEx) hc hs
    · cases h
  · cases h
theorem w_lastore (Ev : EnvOK p R s m args meth c cc own ini nL A ka K) (hd : decode cc pc = .ok (.lastore, 1)) (h : plast (pc + 1) L g st = some S) (k : PW p l e R s m args below meth c Q D A ka ws0 c0 s0 nL S.1 S.2.1 S.2.2.1 S.2.2.2) : PW p l e R s m args below meth c Q D A ka ws0 c0 s0 nL pc L st g := by
  obtain ⟨hx, hb, hml, hown, hts, hnw, hCE, hA, hin, -, -⟩ := Ev
  unfold plast at h
  split at h
  · next x i a r =>
    split at h
    · next n f hg =>
      cases hi : pin i n with
      | false => rw [hi] at h; cases h
      | true =>
        rw [hi] at h
        cases h
        intro ws tys H locs ls st1 hP hK hD hS hH hL hT hE hc hs
        obtain ⟨r00, e00, hT00⟩ := hT.long
        obtain ⟨r0, e0, hT0⟩ := hT00.int
        obtain ⟨a1, E1, r1, h1, e1, hT1⟩ := hT0.ref
        subst e1
        subst e0
        subst e00
        obtain ⟨cA, e2, h3⟩ := hH.get hg h1
        subst e2
        obtain ⟨t0, ht0⟩ := List.getElem?_of_mem h3
        have hEx := Ext.set h1 (.inl (cA, n, .inr (.inl (vp_updL f i.toNatClampNeg x))))
        refine va_last hx hb hK hP hD hS a t0 h1 ht0 (pin_ok hi) hd (fun H1 locs1 hP1 hD1 hS1 => ?_)
        exact k _ tys H1 locs1 ls _ hP1 hK hD1 hS1 (hH.put h1 ⟨cA, rfl, h3⟩) (hL.ext hEx) (hT1.ext hEx) (hE.trans hEx) hc hs
    · cases h
  · cases h
theorem w_aastore (Ev : EnvOK p R s m args meth c cc own ini nL A ka K) (hd : decode cc pc = .ok (.aastore, 1)) (h : paast (pc + 1) L g st = some S) (k : PW p l e R s m args below meth c Q D A ka ws0 c0 s0 nL S.1 S.2.1 S.2.2.1 S.2.2.2) : PW p l e R s m args below meth c Q D A ka ws0 c0 s0 nL pc L st g := by
  obtain ⟨hx, hb, hml, hown, hts, hnw, hCE, hA, hin, -, -⟩ := Ev
  unfold paast at h
  split at h
  · next v i a r =>
    split at h
    · next n f hg =>
      split at h
      · next vs hg2 =>
        cases hi : pin i n with
        | false => rw [hi] at h; cases h
        | true =>
          rw [hi] at h
          cases h
          intro ws tys H locs ls st1 hP hK hD hS hH hL hT hE hc hs
          obtain ⟨av, Ev, r00, hv, e00, hT00⟩ := hT.ref
          obtain ⟨r0, e0, hT0⟩ := hT00.int
          obtain ⟨a1, E1, r1, h1, e1, hT1⟩ := hT0.ref
          subst e1
          subst e0
          subst e00
          obtain ⟨cA, f', e2, h3, h4⟩ := hH.get hg h1
          subst e2
          obtain ⟨vs', e3, h5⟩ := hH.get hg2 hv
          subst e3
          obtain ⟨t0, ht0⟩ := List.getElem?_of_mem h3
          have hEx := Ext.set h1 (.inl (cA, n, .inr (.inr (.inr (.inr (va_up f' i.toNatClampNeg (some av)))))))
          refine va_astq hx hb hK hP hD hS a t0 v 0 h1 (r := ("ThreeLadders$Code", TC0, 4)) ht0 hv rfl (pin_ok hi) hd (fun H1 locs1 hP1 hD1 hS1 => ?_)
          refine k _ tys H1 locs1 ls _ hP1 hK hD1 hS1 (hH.put h1 ⟨cA, _, rfl, h3, fun j hj => ?_⟩) (hL.ext hEx) (hT1.ext hEx) (hE.trans hEx) hc hs
          unfold va_up
          by_cases hji : j = i.toNatClampNeg
          · rw [if_pos hji, if_pos hji]
            exact ⟨_, hv⟩
          · rw [if_neg hji, if_neg hji]
            exact h4 j hj
      · cases h
    · cases h
  · cases h
end StepB
