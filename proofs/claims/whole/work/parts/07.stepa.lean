/-! the pure machine's steps are the machine's: those on locals and stack alone -/
section StepA
variable {p : Program} {l : Launch} {e : Env} {R : Room} {s : State} {m : MethodId} {args : Array Value} {below : List Frame} {meth : Method} {c : Code} {Q : State → Prop} {D : va_G} {A : Nat → Prop} {ka : Nat → Nat} {ws0 : va_W} {c0 s0 nL : Nat} {cc : ByteArray} {pc : Nat} {L : PL} {st : List Value} {g : PG} {S : PS}
/-- from every machine's state that belongs to the pure one, the machine comes to a state with Q -/
def PW (p : Program) (l : Launch) (e : Env) (R : Room) (s : State) (m : MethodId) (args : Array Value) (below : List Frame) (meth : Method) (c : Code) (Q : State → Prop) (D : va_G) (A : Nat → Prop) (ka : Nat → Nat) (ws0 : va_W) (c0 s0 nL : Nat) (pc : Nat) (L : PL) (st : List Value) (g : PG) : Prop :=
  ∀ (ws : va_W) (tys : List (ClassId × FieldType)) (H : Heap) (locs : List Loc) (ls : Array Slot) (st' : List Value), va_P D classes ws H → va_K D classes tys s → va_D A ws → va_S A s.heap H locs → HRel ka ws tys g.1 → LRel ka ws L nL ls → SRel ka ws st st' → Ext ws0 ws → c0 ≤ g.2.1 → s0 ≤ g.2.2 →
    W p l e R s m args below meth c H locs (g.2.1 - c0) (g.2.2 - s0) Q (F0 m pc ls st')
theorem ilit_eq (n : Int) : Int32.ofInt n = ilit n := by
  cases n with
  | ofNat k => rfl
  | negSucc k =>
    show Int32.ofInt (Int.negSucc k) = -nI (k + 1)
    rw [Int.negSucc_eq, Int32.ofInt_neg]
    rfl
theorem ilit_b {n : Int} (h : -128 ≤ n ∧ n < 128) : (Int8.ofInt n).toInt32 = ilit n := by
  rw [← ilit_eq]
  apply Int32.toInt_inj.mp
  rw [Int8.toInt_toInt32, Int8.toInt_ofInt_of_le (by omega) (by omega), Int32.toInt_ofInt_of_le (by omega) (by omega)]
theorem ilit_s {n : Int} (h : -32768 ≤ n ∧ n < 32768) : (Int16.ofInt n).toInt32 = ilit n := by
  rw [← ilit_eq]
  apply Int32.toInt_inj.mp
  rw [Int16.toInt_toInt32, Int16.toInt_ofInt_of_le (by omega) (by omega), Int32.toInt_ofInt_of_le (by omega) (by omega)]
theorem ptgt_ok {off : Int} {t : Nat} (h : ptgt pc off = some t) : (pc : Int) + off = (t : Int) := by
  unfold ptgt at h
  split at h
  · next k hk => cases h; exact hk
  · cases h
theorem w_iconst {n : Int} (hx : p.tables.exec = Jvm.exec) (hb : c.code = cc) (hd : decode cc pc = .ok (.iconst n, 1)) (h : some (pc + 1, L, Value.int (ilit n) :: st, g) = some S) (k : PW p l e R s m args below meth c Q D A ka ws0 c0 s0 nL S.1 S.2.1 S.2.2.1 S.2.2.2) : PW p l e R s m args below meth c Q D A ka ws0 c0 s0 nL pc L st g := by
  cases h
  intro ws tys H locs ls st1 hP hK hD hS hH hL hT hE hc hs
  refine lv_iconst hx hb hd (ilit_eq n) ?_
  exact k ws tys H locs ls _ hP hK hD hS hH hL ⟨rfl, hT⟩ hE hc hs
theorem w_null (hx : p.tables.exec = Jvm.exec) (hb : c.code = cc) (hd : decode cc pc = .ok (.aconst_null, 1)) (h : some (pc + 1, L, Value.null :: st, g) = some S) (k : PW p l e R s m args below meth c Q D A ka ws0 c0 s0 nL S.1 S.2.1 S.2.2.1 S.2.2.2) : PW p l e R s m args below meth c Q D A ka ws0 c0 s0 nL pc L st g := by
  cases h
  intro ws tys H locs ls st1 hP hK hD hS hH hL hT hE hc hs
  refine lv_null hx hb hd ?_
  exact k ws tys H locs ls _ hP hK hD hS hH hL ⟨rfl, hT⟩ hE hc hs
theorem w_lconst {k0 : Fin 2} (hx : p.tables.exec = Jvm.exec) (hb : c.code = cc) (hd : decode cc pc = .ok (.lconst k0, 1)) (h : some (pc + 1, L, Value.long (lN k0) :: st, g) = some S) (k : PW p l e R s m args below meth c Q D A ka ws0 c0 s0 nL S.1 S.2.1 S.2.2.1 S.2.2.2) : PW p l e R s m args below meth c Q D A ka ws0 c0 s0 nL pc L st g := by
  cases h
  intro ws tys H locs ls st1 hP hK hD hS hH hL hT hE hc hs
  refine lv_lconst hx hb hd rfl ?_
  exact k ws tys H locs ls _ hP hK hD hS hH hL ⟨rfl, hT⟩ hE hc hs
theorem w_bipush {n : Int} (hx : p.tables.exec = Jvm.exec) (hb : c.code = cc) (hd : decode cc pc = .ok (.bipush n, 2)) (h : (if -128 ≤ n ∧ n < 128 then some (pc + 2, L, Value.int (ilit n) :: st, g) else none) = some S) (k : PW p l e R s m args below meth c Q D A ka ws0 c0 s0 nL S.1 S.2.1 S.2.2.1 S.2.2.2) : PW p l e R s m args below meth c Q D A ka ws0 c0 s0 nL pc L st g := by
  split at h
  · next hn =>
    cases h
    intro ws tys H locs ls st1 hP hK hD hS hH hL hT hE hc hs
    refine lv_bipush hx hb hd (ilit_b hn) ?_
    exact k ws tys H locs ls _ hP hK hD hS hH hL ⟨rfl, hT⟩ hE hc hs
  · cases h
theorem w_sipush {n : Int} (hx : p.tables.exec = Jvm.exec) (hb : c.code = cc) (hd : decode cc pc = .ok (.sipush n, 3)) (h : (if -32768 ≤ n ∧ n < 32768 then some (pc + 3, L, Value.int (ilit n) :: st, g) else none) = some S) (k : PW p l e R s m args below meth c Q D A ka ws0 c0 s0 nL S.1 S.2.1 S.2.2.1 S.2.2.2) : PW p l e R s m args below meth c Q D A ka ws0 c0 s0 nL pc L st g := by
  split at h
  · next hn =>
    cases h
    intro ws tys H locs ls st1 hP hK hD hS hH hL hT hE hc hs
    refine lv_sipush hx hb hd (ilit_s hn) ?_
    exact k ws tys H locs ls _ hP hK hD hS hH hL ⟨rfl, hT⟩ hE hc hs
  · cases h
theorem w_iload_n {n : Fin 4} (hx : p.tables.exec = Jvm.exec) (hb : c.code = cc) (hd : decode cc pc = .ok (.iload_n n, 1)) (h : pldi L n (pc + 1) st g = some S) (k : PW p l e R s m args below meth c Q D A ka ws0 c0 s0 nL S.1 S.2.1 S.2.2.1 S.2.2.2) : PW p l e R s m args below meth c Q D A ka ws0 c0 s0 nL pc L st g := by
  unfold pldi at h
  split at h
  · next hv =>
    cases h
    intro ws tys H locs ls st1 hP hK hD hS hH hL hT hE hc hs
    obtain ⟨w, h1, h2⟩ := hL.at hv
    rw [show w = _ from h2] at h1
    refine lv_iload_n hx hb hd rfl h1 ?_
    exact k ws tys H locs ls _ hP hK hD hS hH hL ⟨rfl, hT⟩ hE hc hs
  · cases h
theorem w_lload_n {n : Fin 4} (hx : p.tables.exec = Jvm.exec) (hb : c.code = cc) (hd : decode cc pc = .ok (.lload_n n, 1)) (h : pldl L n (pc + 1) st g = some S) (k : PW p l e R s m args below meth c Q D A ka ws0 c0 s0 nL S.1 S.2.1 S.2.2.1 S.2.2.2) : PW p l e R s m args below meth c Q D A ka ws0 c0 s0 nL pc L st g := by
  unfold pldl at h
  split at h
  · next hv =>
    cases h
    intro ws tys H locs ls st1 hP hK hD hS hH hL hT hE hc hs
    obtain ⟨w, h1, h2⟩ := hL.at hv
    rw [show w = _ from h2] at h1
    refine lv_lload_n hx hb hd rfl h1 ?_
    exact k ws tys H locs ls _ hP hK hD hS hH hL ⟨rfl, hT⟩ hE hc hs
  · cases h
theorem w_aload_n {n : Fin 4} (hx : p.tables.exec = Jvm.exec) (hb : c.code = cc) (hd : decode cc pc = .ok (.aload_n n, 1)) (h : plda L n (pc + 1) st g = some S) (k : PW p l e R s m args below meth c Q D A ka ws0 c0 s0 nL S.1 S.2.1 S.2.2.1 S.2.2.2) : PW p l e R s m args below meth c Q D A ka ws0 c0 s0 nL pc L st g := by
  unfold plda at h
  split at h
  · next hv =>
    cases h
    intro ws tys H locs ls st1 hP hK hD hS hH hL hT hE hc hs
    obtain ⟨w, h1, h2⟩ := hL.at hv
    obtain ⟨a1, E1, h3, h4⟩ := h2
    rw [h4] at h1
    refine lv_aload_n hx hb hd rfl h1 ?_
    exact k ws tys H locs ls _ hP hK hD hS hH hL ⟨⟨a1, E1, h3, rfl⟩, hT⟩ hE hc hs
  · next hv =>
    cases h
    intro ws tys H locs ls st1 hP hK hD hS hH hL hT hE hc hs
    obtain ⟨w, h1, h2⟩ := hL.at hv
    rw [show w = _ from h2] at h1
    refine lv_aload_n hx hb hd rfl h1 ?_
    exact k ws tys H locs ls _ hP hK hD hS hH hL ⟨rfl, hT⟩ hE hc hs
  · next hv =>
    cases h
    intro ws tys H locs ls st1 hP hK hD hS hH hL hT hE hc hs
    obtain ⟨w, h1, h2⟩ := hL.at hv
    rw [show w = _ from h2] at h1
    refine lv_aload_nN hx hb hd rfl h1 ?_
    exact k ws tys H locs ls _ hP hK hD hS hH hL ⟨rfl, hT⟩ hE hc hs
  · cases h
theorem w_istore_n {n : Fin 4} (hx : p.tables.exec = Jvm.exec) (hb : c.code = cc) (hd : decode cc pc = .ok (.istore_n n, 1)) (h : psti L n (pc + 1) g st = some S) (k : PW p l e R s m args below meth c Q D A ka ws0 c0 s0 nL S.1 S.2.1 S.2.2.1 S.2.2.2) : PW p l e R s m args below meth c Q D A ka ws0 c0 s0 nL pc L st g := by
  unfold psti at h
  split at h
  · next r =>
    cases hq : pst1 L n (.int _) with
    | none => rw [hq] at h; cases h
    | some L1 =>
      rw [hq] at h
      cases h
      intro ws tys H locs ls st1 hP hK hD hS hH hL hT hE hc hs
      obtain ⟨r1, e1, hT1⟩ := hT.int
      subst e1
      obtain ⟨hi, lv, hlv, hq2⟩ := hL.st1 hq rfl
      refine lv_istore_n hx hb hd rfl  hlv hi rfl (fun ls1 hl1 => ?_)
      exact k ws tys H locs ls1 _ hP hK hD hS hH (hq2 ls1 hl1) hT1 hE hc hs
  · cases h
theorem w_lstore_n {n : Fin 4} (hx : p.tables.exec = Jvm.exec) (hb : c.code = cc) (hd : decode cc pc = .ok (.lstore_n n, 1)) (h : pstl L n (pc + 1) g st = some S) (k : PW p l e R s m args below meth c Q D A ka ws0 c0 s0 nL S.1 S.2.1 S.2.2.1 S.2.2.2) : PW p l e R s m args below meth c Q D A ka ws0 c0 s0 nL pc L st g := by
  unfold pstl at h
  split at h
  · next r =>
    cases hq : pst2 L n (.long _) with
    | none => rw [hq] at h; cases h
    | some L1 =>
      rw [hq] at h
      cases h
      intro ws tys H locs ls st1 hP hK hD hS hH hL hT hE hc hs
      obtain ⟨r1, e1, hT1⟩ := hT.long
      subst e1
      obtain ⟨hi, lv, hlv, hq2⟩ := hL.st2 hq rfl
      refine lv_lstore_n hx hb hd rfl  hlv hi rfl (fun ls1 hl1 => ?_)
      exact k ws tys H locs ls1 _ hP hK hD hS hH (hq2 ls1 hl1) hT1 hE hc hs
  · cases h
theorem w_astore_n {n : Fin 4} (hx : p.tables.exec = Jvm.exec) (hb : c.code = cc) (hd : decode cc pc = .ok (.astore_n n, 1)) (h : psta L n (pc + 1) g st = some S) (k : PW p l e R s m args below meth c Q D A ka ws0 c0 s0 nL S.1 S.2.1 S.2.2.1 S.2.2.2) : PW p l e R s m args below meth c Q D A ka ws0 c0 s0 nL pc L st g := by
  unfold psta at h
  split at h
  · next r =>
    cases hq : pst1 L n (.ref _) with
    | none => rw [hq] at h; cases h
    | some L1 =>
      rw [hq] at h
      cases h
      intro ws tys H locs ls st1 hP hK hD hS hH hL hT hE hc hs
      obtain ⟨a1, E1, r1, h3, e1, hT1⟩ := hT.ref
      subst e1
      obtain ⟨hi, lv, hlv, hq2⟩ := hL.st1 hq ⟨a1, E1, h3, rfl⟩
      refine lv_astore_n hx hb hd rfl  hlv hi rfl (fun ls1 hl1 => ?_)
      exact k ws tys H locs ls1 _ hP hK hD hS hH (hq2 ls1 hl1) hT1 hE hc hs
  · next r =>
    cases hq : pst1 L n (.retAddr _) with
    | none => rw [hq] at h; cases h
    | some L1 =>
      rw [hq] at h
      cases h
      intro ws tys H locs ls st1 hP hK hD hS hH hL hT hE hc hs
      obtain ⟨r1, e1, hT1⟩ := hT.con
      subst e1
      obtain ⟨hi, lv, hlv, hq2⟩ := hL.st1 hq rfl
      refine lv_astore_n hx hb hd rfl  hlv hi rfl (fun ls1 hl1 => ?_)
      exact k ws tys H locs ls1 _ hP hK hD hS hH (hq2 ls1 hl1) hT1 hE hc hs
  · next r =>
    cases hq : pst1 L n .null with
    | none => rw [hq] at h; cases h
    | some L1 =>
      rw [hq] at h
      cases h
      intro ws tys H locs ls st1 hP hK hD hS hH hL hT hE hc hs
      obtain ⟨r1, e1, hT1⟩ := hT.null
      subst e1
      obtain ⟨hi, lv, hlv, hq2⟩ := hL.st1 hq rfl
      refine lv_astore_nN hx hb hd rfl  hlv hi rfl (fun ls1 hl1 => ?_)
      exact k ws tys H locs ls1 _ hP hK hD hS hH (hq2 ls1 hl1) hT1 hE hc hs
  · cases h
theorem w_iload {i : Nat} (hx : p.tables.exec = Jvm.exec) (hb : c.code = cc) (hd : decode cc pc = .ok (.iload i, 2)) (h : pldi L i (pc + 2) st g = some S) (k : PW p l e R s m args below meth c Q D A ka ws0 c0 s0 nL S.1 S.2.1 S.2.2.1 S.2.2.2) : PW p l e R s m args below meth c Q D A ka ws0 c0 s0 nL pc L st g := by
  unfold pldi at h
  split at h
  · next hv =>
    cases h
    intro ws tys H locs ls st1 hP hK hD hS hH hL hT hE hc hs
    obtain ⟨w, h1, h2⟩ := hL.at hv
    rw [show w = _ from h2] at h1
    refine lv_iload hx hb hd h1 ?_
    exact k ws tys H locs ls _ hP hK hD hS hH hL ⟨rfl, hT⟩ hE hc hs
  · cases h
theorem w_lload {i : Nat} (hx : p.tables.exec = Jvm.exec) (hb : c.code = cc) (hd : decode cc pc = .ok (.lload i, 2)) (h : pldl L i (pc + 2) st g = some S) (k : PW p l e R s m args below meth c Q D A ka ws0 c0 s0 nL S.1 S.2.1 S.2.2.1 S.2.2.2) : PW p l e R s m args below meth c Q D A ka ws0 c0 s0 nL pc L st g := by
  unfold pldl at h
  split at h
  · next hv =>
    cases h
    intro ws tys H locs ls st1 hP hK hD hS hH hL hT hE hc hs
    obtain ⟨w, h1, h2⟩ := hL.at hv
    rw [show w = _ from h2] at h1
    refine lv_lload hx hb hd h1 ?_
    exact k ws tys H locs ls _ hP hK hD hS hH hL ⟨rfl, hT⟩ hE hc hs
  · cases h
theorem w_aload {i : Nat} (hx : p.tables.exec = Jvm.exec) (hb : c.code = cc) (hd : decode cc pc = .ok (.aload i, 2)) (h : plda L i (pc + 2) st g = some S) (k : PW p l e R s m args below meth c Q D A ka ws0 c0 s0 nL S.1 S.2.1 S.2.2.1 S.2.2.2) : PW p l e R s m args below meth c Q D A ka ws0 c0 s0 nL pc L st g := by
  unfold plda at h
  split at h
  · next hv =>
    cases h
    intro ws tys H locs ls st1 hP hK hD hS hH hL hT hE hc hs
    obtain ⟨w, h1, h2⟩ := hL.at hv
    obtain ⟨a1, E1, h3, h4⟩ := h2
    rw [h4] at h1
    refine lv_aload hx hb hd h1 ?_
    exact k ws tys H locs ls _ hP hK hD hS hH hL ⟨⟨a1, E1, h3, rfl⟩, hT⟩ hE hc hs
  · next hv =>
    cases h
    intro ws tys H locs ls st1 hP hK hD hS hH hL hT hE hc hs
    obtain ⟨w, h1, h2⟩ := hL.at hv
    rw [show w = _ from h2] at h1
    refine lv_aload hx hb hd h1 ?_
    exact k ws tys H locs ls _ hP hK hD hS hH hL ⟨rfl, hT⟩ hE hc hs
  · next hv =>
    cases h
    intro ws tys H locs ls st1 hP hK hD hS hH hL hT hE hc hs
    obtain ⟨w, h1, h2⟩ := hL.at hv
    rw [show w = _ from h2] at h1
    refine lv_aloadN hx hb hd h1 ?_
    exact k ws tys H locs ls _ hP hK hD hS hH hL ⟨rfl, hT⟩ hE hc hs
  · cases h
theorem w_istore {i : Nat} (hx : p.tables.exec = Jvm.exec) (hb : c.code = cc) (hd : decode cc pc = .ok (.istore i, 2)) (h : psti L i (pc + 2) g st = some S) (k : PW p l e R s m args below meth c Q D A ka ws0 c0 s0 nL S.1 S.2.1 S.2.2.1 S.2.2.2) : PW p l e R s m args below meth c Q D A ka ws0 c0 s0 nL pc L st g := by
  unfold psti at h
  split at h
  · next r =>
    cases hq : pst1 L i (.int _) with
    | none => rw [hq] at h; cases h
    | some L1 =>
      rw [hq] at h
      cases h
      intro ws tys H locs ls st1 hP hK hD hS hH hL hT hE hc hs
      obtain ⟨r1, e1, hT1⟩ := hT.int
      subst e1
      obtain ⟨hi, lv, hlv, hq2⟩ := hL.st1 hq rfl
      refine lv_istore hx hb hd  hlv hi rfl (fun ls1 hl1 => ?_)
      exact k ws tys H locs ls1 _ hP hK hD hS hH (hq2 ls1 hl1) hT1 hE hc hs
  · cases h
theorem w_lstore {i : Nat} (hx : p.tables.exec = Jvm.exec) (hb : c.code = cc) (hd : decode cc pc = .ok (.lstore i, 2)) (h : pstl L i (pc + 2) g st = some S) (k : PW p l e R s m args below meth c Q D A ka ws0 c0 s0 nL S.1 S.2.1 S.2.2.1 S.2.2.2) : PW p l e R s m args below meth c Q D A ka ws0 c0 s0 nL pc L st g := by
  unfold pstl at h
  split at h
  · next r =>
    cases hq : pst2 L i (.long _) with
    | none => rw [hq] at h; cases h
    | some L1 =>
      rw [hq] at h
      cases h
      intro ws tys H locs ls st1 hP hK hD hS hH hL hT hE hc hs
      obtain ⟨r1, e1, hT1⟩ := hT.long
      subst e1
      obtain ⟨hi, lv, hlv, hq2⟩ := hL.st2 hq rfl
      refine lv_lstore hx hb hd  hlv hi rfl (fun ls1 hl1 => ?_)
      exact k ws tys H locs ls1 _ hP hK hD hS hH (hq2 ls1 hl1) hT1 hE hc hs
  · cases h
theorem w_astore {i : Nat} (hx : p.tables.exec = Jvm.exec) (hb : c.code = cc) (hd : decode cc pc = .ok (.astore i, 2)) (h : psta L i (pc + 2) g st = some S) (k : PW p l e R s m args below meth c Q D A ka ws0 c0 s0 nL S.1 S.2.1 S.2.2.1 S.2.2.2) : PW p l e R s m args below meth c Q D A ka ws0 c0 s0 nL pc L st g := by
  unfold psta at h
  split at h
  · next r =>
    cases hq : pst1 L i (.ref _) with
    | none => rw [hq] at h; cases h
    | some L1 =>
      rw [hq] at h
      cases h
      intro ws tys H locs ls st1 hP hK hD hS hH hL hT hE hc hs
      obtain ⟨a1, E1, r1, h3, e1, hT1⟩ := hT.ref
      subst e1
      obtain ⟨hi, lv, hlv, hq2⟩ := hL.st1 hq ⟨a1, E1, h3, rfl⟩
      refine lv_astore hx hb hd  hlv hi rfl (fun ls1 hl1 => ?_)
      exact k ws tys H locs ls1 _ hP hK hD hS hH (hq2 ls1 hl1) hT1 hE hc hs
  · next r =>
    cases hq : pst1 L i (.retAddr _) with
    | none => rw [hq] at h; cases h
    | some L1 =>
      rw [hq] at h
      cases h
      intro ws tys H locs ls st1 hP hK hD hS hH hL hT hE hc hs
      obtain ⟨r1, e1, hT1⟩ := hT.con
      subst e1
      obtain ⟨hi, lv, hlv, hq2⟩ := hL.st1 hq rfl
      refine lv_astore hx hb hd  hlv hi rfl (fun ls1 hl1 => ?_)
      exact k ws tys H locs ls1 _ hP hK hD hS hH (hq2 ls1 hl1) hT1 hE hc hs
  · next r =>
    cases hq : pst1 L i .null with
    | none => rw [hq] at h; cases h
    | some L1 =>
      rw [hq] at h
      cases h
      intro ws tys H locs ls st1 hP hK hD hS hH hL hT hE hc hs
      obtain ⟨r1, e1, hT1⟩ := hT.null
      subst e1
      obtain ⟨hi, lv, hlv, hq2⟩ := hL.st1 hq rfl
      refine lv_astoreN hx hb hd  hlv hi rfl (fun ls1 hl1 => ?_)
      exact k ws tys H locs ls1 _ hP hK hD hS hH (hq2 ls1 hl1) hT1 hE hc hs
  · cases h
theorem w_iinc {i : Nat} {n : Int} (hx : p.tables.exec = Jvm.exec) (hb : c.code = cc) (hd : decode cc pc = .ok (.iinc i n, 3)) (h : piinc L i n (pc + 3) st g = some S) (k : PW p l e R s m args below meth c Q D A ka ws0 c0 s0 nL S.1 S.2.1 S.2.2.1 S.2.2.2) : PW p l e R s m args below meth c Q D A ka ws0 c0 s0 nL pc L st g := by
  unfold piinc at h
  split at h
  · next x hv =>
    cases hq : pst1 L i (.int (x + ilit n)) with
    | none => rw [hq] at h; cases h
    | some L1 =>
      rw [hq] at h
      cases h
      intro ws tys H locs ls st1 hP hK hD hS hH hL hT hE hc hs
      obtain ⟨h0, lv, hlv, h2⟩ := hL
      obtain ⟨w, h3, h4⟩ := h2 i _ (getD_some hv)
      rw [show w = .int x from h4] at h3
      obtain ⟨j, hj⟩ := List.getElem?_of_mem h3
      obtain ⟨hi, hq2⟩ := LRel.st1c (w := .int (x + ilit n)) h0 h2 hq rfl
      refine lv_iinc hx hb hd hlv hj (by rw [ilit_eq]) hi rfl (fun ls1 hl1 => ?_)
      exact k ws tys H locs ls1 _ hP hK hD hS hH (hq2 ls1 hl1) hT hE hc hs
  · cases h
theorem w_iadd (hx : p.tables.exec = Jvm.exec) (hb : c.code = cc) (hd : decode cc pc = .ok (.iadd, 1)) (h : pbin (fun x y => x + y) (pc + 1) L g st = some S) (k : PW p l e R s m args below meth c Q D A ka ws0 c0 s0 nL S.1 S.2.1 S.2.2.1 S.2.2.2) : PW p l e R s m args below meth c Q D A ka ws0 c0 s0 nL pc L st g := by
  unfold pbin at h
  split at h
  · cases h
    intro ws tys H locs ls st1 hP hK hD hS hH hL hT hE hc hs
    obtain ⟨r1, e1, hT1⟩ := hT.int
    obtain ⟨r2, e2, hT2⟩ := hT1.int
    subst e2
    subst e1
    refine lv_iadd hx hb hd ?_
    exact k ws tys H locs ls _ hP hK hD hS hH hL ⟨rfl, hT2⟩ hE hc hs
  · cases h
theorem w_isub (hx : p.tables.exec = Jvm.exec) (hb : c.code = cc) (hd : decode cc pc = .ok (.isub, 1)) (h : pbin (fun x y => x - y) (pc + 1) L g st = some S) (k : PW p l e R s m args below meth c Q D A ka ws0 c0 s0 nL S.1 S.2.1 S.2.2.1 S.2.2.2) : PW p l e R s m args below meth c Q D A ka ws0 c0 s0 nL pc L st g := by
  unfold pbin at h
  split at h
  · cases h
    intro ws tys H locs ls st1 hP hK hD hS hH hL hT hE hc hs
    obtain ⟨r1, e1, hT1⟩ := hT.int
    obtain ⟨r2, e2, hT2⟩ := hT1.int
    subst e2
    subst e1
    refine lv_isub hx hb hd ?_
    exact k ws tys H locs ls _ hP hK hD hS hH hL ⟨rfl, hT2⟩ hE hc hs
  · cases h
theorem w_imul (hx : p.tables.exec = Jvm.exec) (hb : c.code = cc) (hd : decode cc pc = .ok (.imul, 1)) (h : pbin (fun x y => x * y) (pc + 1) L g st = some S) (k : PW p l e R s m args below meth c Q D A ka ws0 c0 s0 nL S.1 S.2.1 S.2.2.1 S.2.2.2) : PW p l e R s m args below meth c Q D A ka ws0 c0 s0 nL pc L st g := by
  unfold pbin at h
  split at h
  · cases h
    intro ws tys H locs ls st1 hP hK hD hS hH hL hT hE hc hs
    obtain ⟨r1, e1, hT1⟩ := hT.int
    obtain ⟨r2, e2, hT2⟩ := hT1.int
    subst e2
    subst e1
    refine lv_imul hx hb hd ?_
    exact k ws tys H locs ls _ hP hK hD hS hH hL ⟨rfl, hT2⟩ hE hc hs
  · cases h
theorem w_iand (hx : p.tables.exec = Jvm.exec) (hb : c.code = cc) (hd : decode cc pc = .ok (.iand, 1)) (h : pbin (fun x y => x &&& y) (pc + 1) L g st = some S) (k : PW p l e R s m args below meth c Q D A ka ws0 c0 s0 nL S.1 S.2.1 S.2.2.1 S.2.2.2) : PW p l e R s m args below meth c Q D A ka ws0 c0 s0 nL pc L st g := by
  unfold pbin at h
  split at h
  · cases h
    intro ws tys H locs ls st1 hP hK hD hS hH hL hT hE hc hs
    obtain ⟨r1, e1, hT1⟩ := hT.int
    obtain ⟨r2, e2, hT2⟩ := hT1.int
    subst e2
    subst e1
    refine lv_iand hx hb hd ?_
    exact k ws tys H locs ls _ hP hK hD hS hH hL ⟨rfl, hT2⟩ hE hc hs
  · cases h
theorem w_ior (hx : p.tables.exec = Jvm.exec) (hb : c.code = cc) (hd : decode cc pc = .ok (.ior, 1)) (h : pbin (fun x y => x ||| y) (pc + 1) L g st = some S) (k : PW p l e R s m args below meth c Q D A ka ws0 c0 s0 nL S.1 S.2.1 S.2.2.1 S.2.2.2) : PW p l e R s m args below meth c Q D A ka ws0 c0 s0 nL pc L st g := by
  unfold pbin at h
  split at h
  · cases h
    intro ws tys H locs ls st1 hP hK hD hS hH hL hT hE hc hs
    obtain ⟨r1, e1, hT1⟩ := hT.int
    obtain ⟨r2, e2, hT2⟩ := hT1.int
    subst e2
    subst e1
    refine lv_ior hx hb hd ?_
    exact k ws tys H locs ls _ hP hK hD hS hH hL ⟨rfl, hT2⟩ hE hc hs
  · cases h
theorem w_ixor (hx : p.tables.exec = Jvm.exec) (hb : c.code = cc) (hd : decode cc pc = .ok (.ixor, 1)) (h : pbin (fun x y => x ^^^ y) (pc + 1) L g st = some S) (k : PW p l e R s m args below meth c Q D A ka ws0 c0 s0 nL S.1 S.2.1 S.2.2.1 S.2.2.2) : PW p l e R s m args below meth c Q D A ka ws0 c0 s0 nL pc L st g := by
  unfold pbin at h
  split at h
  · cases h
    intro ws tys H locs ls st1 hP hK hD hS hH hL hT hE hc hs
    obtain ⟨r1, e1, hT1⟩ := hT.int
    obtain ⟨r2, e2, hT2⟩ := hT1.int
    subst e2
    subst e1
    refine lv_ixor hx hb hd ?_
    exact k ws tys H locs ls _ hP hK hD hS hH hL ⟨rfl, hT2⟩ hE hc hs
  · cases h
theorem w_ishl (hx : p.tables.exec = Jvm.exec) (hb : c.code = cc) (hd : decode cc pc = .ok (.ishl, 1)) (h : pbin (fun x y => x <<< (y &&& 31)) (pc + 1) L g st = some S) (k : PW p l e R s m args below meth c Q D A ka ws0 c0 s0 nL S.1 S.2.1 S.2.2.1 S.2.2.2) : PW p l e R s m args below meth c Q D A ka ws0 c0 s0 nL pc L st g := by
  unfold pbin at h
  split at h
  · cases h
    intro ws tys H locs ls st1 hP hK hD hS hH hL hT hE hc hs
    obtain ⟨r1, e1, hT1⟩ := hT.int
    obtain ⟨r2, e2, hT2⟩ := hT1.int
    subst e2
    subst e1
    refine lv_ishl hx hb hd ?_
    exact k ws tys H locs ls _ hP hK hD hS hH hL ⟨rfl, hT2⟩ hE hc hs
  · cases h
theorem w_ishr (hx : p.tables.exec = Jvm.exec) (hb : c.code = cc) (hd : decode cc pc = .ok (.ishr, 1)) (h : pbin (fun x y => x >>> (y &&& 31)) (pc + 1) L g st = some S) (k : PW p l e R s m args below meth c Q D A ka ws0 c0 s0 nL S.1 S.2.1 S.2.2.1 S.2.2.2) : PW p l e R s m args below meth c Q D A ka ws0 c0 s0 nL pc L st g := by
  unfold pbin at h
  split at h
  · cases h
    intro ws tys H locs ls st1 hP hK hD hS hH hL hT hE hc hs
    obtain ⟨r1, e1, hT1⟩ := hT.int
    obtain ⟨r2, e2, hT2⟩ := hT1.int
    subst e2
    subst e1
    refine lv_ishr hx hb hd ?_
    exact k ws tys H locs ls _ hP hK hD hS hH hL ⟨rfl, hT2⟩ hE hc hs
  · cases h
theorem w_iushr (hx : p.tables.exec = Jvm.exec) (hb : c.code = cc) (hd : decode cc pc = .ok (.iushr, 1)) (h : pbin (fun x y => (x.toUInt32 >>> (y.toUInt32 &&& Int32.toUInt32 31)).toInt32) (pc + 1) L g st = some S) (k : PW p l e R s m args below meth c Q D A ka ws0 c0 s0 nL S.1 S.2.1 S.2.2.1 S.2.2.2) : PW p l e R s m args below meth c Q D A ka ws0 c0 s0 nL pc L st g := by
  unfold pbin at h
  split at h
  · cases h
    intro ws tys H locs ls st1 hP hK hD hS hH hL hT hE hc hs
    obtain ⟨r1, e1, hT1⟩ := hT.int
    obtain ⟨r2, e2, hT2⟩ := hT1.int
    subst e2
    subst e1
    refine lv_iushr hx hb hd rfl ?_
    exact k ws tys H locs ls _ hP hK hD hS hH hL ⟨rfl, hT2⟩ hE hc hs
  · cases h
theorem w_idiv (hx : p.tables.exec = Jvm.exec) (hb : c.code = cc) (hd : decode cc pc = .ok (.idiv, 1)) (h : pbinz (fun x y => x / y) (pc + 1) L g st = some S) (k : PW p l e R s m args below meth c Q D A ka ws0 c0 s0 nL S.1 S.2.1 S.2.2.1 S.2.2.2) : PW p l e R s m args below meth c Q D A ka ws0 c0 s0 nL pc L st g := by
  unfold pbinz at h
  split at h
  · split at h
    · cases h
    · next hz =>
      cases h
      intro ws tys H locs ls st1 hP hK hD hS hH hL hT hE hc hs
      obtain ⟨r1, e1, hT1⟩ := hT.int
      obtain ⟨r2, e2, hT2⟩ := hT1.int
      subst e2
      subst e1
      refine lv_idiv hx hb hd hz ?_
      exact k ws tys H locs ls _ hP hK hD hS hH hL ⟨rfl, hT2⟩ hE hc hs
  · cases h
theorem w_irem (hx : p.tables.exec = Jvm.exec) (hb : c.code = cc) (hd : decode cc pc = .ok (.irem, 1)) (h : pbinz (fun x y => x - x / y * y) (pc + 1) L g st = some S) (k : PW p l e R s m args below meth c Q D A ka ws0 c0 s0 nL S.1 S.2.1 S.2.2.1 S.2.2.2) : PW p l e R s m args below meth c Q D A ka ws0 c0 s0 nL pc L st g := by
  unfold pbinz at h
  split at h
  · split at h
    · cases h
    · next hz =>
      cases h
      intro ws tys H locs ls st1 hP hK hD hS hH hL hT hE hc hs
      obtain ⟨r1, e1, hT1⟩ := hT.int
      obtain ⟨r2, e2, hT2⟩ := hT1.int
      subst e2
      subst e1
      refine lv_irem hx hb hd hz ?_
      exact k ws tys H locs ls _ hP hK hD hS hH hL ⟨rfl, hT2⟩ hE hc hs
  · cases h
theorem w_ladd (hx : p.tables.exec = Jvm.exec) (hb : c.code = cc) (hd : decode cc pc = .ok (.ladd, 1)) (h : pbinl (fun x y => x + y) (pc + 1) L g st = some S) (k : PW p l e R s m args below meth c Q D A ka ws0 c0 s0 nL S.1 S.2.1 S.2.2.1 S.2.2.2) : PW p l e R s m args below meth c Q D A ka ws0 c0 s0 nL pc L st g := by
  unfold pbinl at h
  split at h
  · cases h
    intro ws tys H locs ls st1 hP hK hD hS hH hL hT hE hc hs
    obtain ⟨r1, e1, hT1⟩ := hT.long
    obtain ⟨r2, e2, hT2⟩ := hT1.long
    subst e2
    subst e1
    refine lv_ladd hx hb hd ?_
    exact k ws tys H locs ls _ hP hK hD hS hH hL ⟨rfl, hT2⟩ hE hc hs
  · cases h
theorem w_lsub (hx : p.tables.exec = Jvm.exec) (hb : c.code = cc) (hd : decode cc pc = .ok (.lsub, 1)) (h : pbinl (fun x y => x - y) (pc + 1) L g st = some S) (k : PW p l e R s m args below meth c Q D A ka ws0 c0 s0 nL S.1 S.2.1 S.2.2.1 S.2.2.2) : PW p l e R s m args below meth c Q D A ka ws0 c0 s0 nL pc L st g := by
  unfold pbinl at h
  split at h
  · cases h
    intro ws tys H locs ls st1 hP hK hD hS hH hL hT hE hc hs
    obtain ⟨r1, e1, hT1⟩ := hT.long
    obtain ⟨r2, e2, hT2⟩ := hT1.long
    subst e2
    subst e1
    refine lv_lsub hx hb hd ?_
    exact k ws tys H locs ls _ hP hK hD hS hH hL ⟨rfl, hT2⟩ hE hc hs
  · cases h
theorem w_lmul (hx : p.tables.exec = Jvm.exec) (hb : c.code = cc) (hd : decode cc pc = .ok (.lmul, 1)) (h : pbinl (fun x y => x * y) (pc + 1) L g st = some S) (k : PW p l e R s m args below meth c Q D A ka ws0 c0 s0 nL S.1 S.2.1 S.2.2.1 S.2.2.2) : PW p l e R s m args below meth c Q D A ka ws0 c0 s0 nL pc L st g := by
  unfold pbinl at h
  split at h
  · cases h
    intro ws tys H locs ls st1 hP hK hD hS hH hL hT hE hc hs
    obtain ⟨r1, e1, hT1⟩ := hT.long
    obtain ⟨r2, e2, hT2⟩ := hT1.long
    subst e2
    subst e1
    refine lv_lmul hx hb hd ?_
    exact k ws tys H locs ls _ hP hK hD hS hH hL ⟨rfl, hT2⟩ hE hc hs
  · cases h
theorem w_land (hx : p.tables.exec = Jvm.exec) (hb : c.code = cc) (hd : decode cc pc = .ok (.land, 1)) (h : pbinl (fun x y => x &&& y) (pc + 1) L g st = some S) (k : PW p l e R s m args below meth c Q D A ka ws0 c0 s0 nL S.1 S.2.1 S.2.2.1 S.2.2.2) : PW p l e R s m args below meth c Q D A ka ws0 c0 s0 nL pc L st g := by
  unfold pbinl at h
  split at h
  · cases h
    intro ws tys H locs ls st1 hP hK hD hS hH hL hT hE hc hs
    obtain ⟨r1, e1, hT1⟩ := hT.long
    obtain ⟨r2, e2, hT2⟩ := hT1.long
    subst e2
    subst e1
    refine lv_land hx hb hd ?_
    exact k ws tys H locs ls _ hP hK hD hS hH hL ⟨rfl, hT2⟩ hE hc hs
  · cases h
theorem w_lor (hx : p.tables.exec = Jvm.exec) (hb : c.code = cc) (hd : decode cc pc = .ok (.lor, 1)) (h : pbinl (fun x y => x ||| y) (pc + 1) L g st = some S) (k : PW p l e R s m args below meth c Q D A ka ws0 c0 s0 nL S.1 S.2.1 S.2.2.1 S.2.2.2) : PW p l e R s m args below meth c Q D A ka ws0 c0 s0 nL pc L st g := by
  unfold pbinl at h
  split at h
  · cases h
    intro ws tys H locs ls st1 hP hK hD hS hH hL hT hE hc hs
    obtain ⟨r1, e1, hT1⟩ := hT.long
    obtain ⟨r2, e2, hT2⟩ := hT1.long
    subst e2
    subst e1
    refine lv_lor hx hb hd ?_
    exact k ws tys H locs ls _ hP hK hD hS hH hL ⟨rfl, hT2⟩ hE hc hs
  · cases h
theorem w_ldiv (hx : p.tables.exec = Jvm.exec) (hb : c.code = cc) (hd : decode cc pc = .ok (.ldiv, 1)) (h : pbinlz (fun x y => x / y) (pc + 1) L g st = some S) (k : PW p l e R s m args below meth c Q D A ka ws0 c0 s0 nL S.1 S.2.1 S.2.2.1 S.2.2.2) : PW p l e R s m args below meth c Q D A ka ws0 c0 s0 nL pc L st g := by
  unfold pbinlz at h
  split at h
  · split at h
    · cases h
    · next hz =>
      cases h
      intro ws tys H locs ls st1 hP hK hD hS hH hL hT hE hc hs
      obtain ⟨r1, e1, hT1⟩ := hT.long
      obtain ⟨r2, e2, hT2⟩ := hT1.long
      subst e2
      subst e1
      refine lv_ldiv hx hb hd hz ?_
      exact k ws tys H locs ls _ hP hK hD hS hH hL ⟨rfl, hT2⟩ hE hc hs
  · cases h
theorem w_lrem (hx : p.tables.exec = Jvm.exec) (hb : c.code = cc) (hd : decode cc pc = .ok (.lrem, 1)) (h : pbinlz (fun x y => x - x / y * y) (pc + 1) L g st = some S) (k : PW p l e R s m args below meth c Q D A ka ws0 c0 s0 nL S.1 S.2.1 S.2.2.1 S.2.2.2) : PW p l e R s m args below meth c Q D A ka ws0 c0 s0 nL pc L st g := by
  unfold pbinlz at h
  split at h
  · split at h
    · cases h
    · next hz =>
      cases h
      intro ws tys H locs ls st1 hP hK hD hS hH hL hT hE hc hs
      obtain ⟨r1, e1, hT1⟩ := hT.long
      obtain ⟨r2, e2, hT2⟩ := hT1.long
      subst e2
      subst e1
      refine lv_lrem hx hb hd hz ?_
      exact k ws tys H locs ls _ hP hK hD hS hH hL ⟨rfl, hT2⟩ hE hc hs
  · cases h
theorem w_lshl (hx : p.tables.exec = Jvm.exec) (hb : c.code = cc) (hd : decode cc pc = .ok (.lshl, 1)) (h : pshl (fun x y => x <<< (y.toInt64 &&& 63)) (pc + 1) L g st = some S) (k : PW p l e R s m args below meth c Q D A ka ws0 c0 s0 nL S.1 S.2.1 S.2.2.1 S.2.2.2) : PW p l e R s m args below meth c Q D A ka ws0 c0 s0 nL pc L st g := by
  unfold pshl at h
  split at h
  · cases h
    intro ws tys H locs ls st1 hP hK hD hS hH hL hT hE hc hs
    obtain ⟨r1, e1, hT1⟩ := hT.int
    obtain ⟨r2, e2, hT2⟩ := hT1.long
    subst e2
    subst e1
    refine lv_lshl hx hb hd rfl ?_
    exact k ws tys H locs ls _ hP hK hD hS hH hL ⟨rfl, hT2⟩ hE hc hs
  · cases h
theorem w_lushr (hx : p.tables.exec = Jvm.exec) (hb : c.code = cc) (hd : decode cc pc = .ok (.lushr, 1)) (h : pshl (fun x y => (x.toUInt64 >>> (y.toInt64.toUInt64 &&& Int64.toUInt64 63)).toInt64) (pc + 1) L g st = some S) (k : PW p l e R s m args below meth c Q D A ka ws0 c0 s0 nL S.1 S.2.1 S.2.2.1 S.2.2.2) : PW p l e R s m args below meth c Q D A ka ws0 c0 s0 nL pc L st g := by
  unfold pshl at h
  split at h
  · cases h
    intro ws tys H locs ls st1 hP hK hD hS hH hL hT hE hc hs
    obtain ⟨r1, e1, hT1⟩ := hT.int
    obtain ⟨r2, e2, hT2⟩ := hT1.long
    subst e2
    subst e1
    refine lv_lushr hx hb hd rfl ?_
    exact k ws tys H locs ls _ hP hK hD hS hH hL ⟨rfl, hT2⟩ hE hc hs
  · cases h
theorem w_lcmp (hx : p.tables.exec = Jvm.exec) (hb : c.code = cc) (hd : decode cc pc = .ok (.lcmp, 1)) (h : plcmp (pc + 1) L g st = some S) (k : PW p l e R s m args below meth c Q D A ka ws0 c0 s0 nL S.1 S.2.1 S.2.2.1 S.2.2.2) : PW p l e R s m args below meth c Q D A ka ws0 c0 s0 nL pc L st g := by
  unfold plcmp at h
  split at h
  · cases h
    intro ws tys H locs ls st1 hP hK hD hS hH hL hT hE hc hs
    obtain ⟨r1, e1, hT1⟩ := hT.long
    obtain ⟨r2, e2, hT2⟩ := hT1.long
    subst e2
    subst e1
    refine W.lcmp hx hb hd ?_
    exact k ws tys H locs ls _ hP hK hD hS hH hL ⟨rfl, hT2⟩ hE hc hs
  · cases h
theorem w_ineg (hx : p.tables.exec = Jvm.exec) (hb : c.code = cc) (hd : decode cc pc = .ok (.ineg, 1)) (h : puni (fun x => .int (-x)) (pc + 1) L g st = some S) (k : PW p l e R s m args below meth c Q D A ka ws0 c0 s0 nL S.1 S.2.1 S.2.2.1 S.2.2.2) : PW p l e R s m args below meth c Q D A ka ws0 c0 s0 nL pc L st g := by
  unfold puni at h
  split at h
  · cases h
    intro ws tys H locs ls st1 hP hK hD hS hH hL hT hE hc hs
    obtain ⟨r1, e1, hT1⟩ := hT.int
    subst e1
    refine lv_ineg hx hb hd ?_
    exact k ws tys H locs ls _ hP hK hD hS hH hL ⟨rfl, hT1⟩ hE hc hs
  · cases h
theorem w_i2l (hx : p.tables.exec = Jvm.exec) (hb : c.code = cc) (hd : decode cc pc = .ok (.i2l, 1)) (h : puni (fun x => .long x.toInt64) (pc + 1) L g st = some S) (k : PW p l e R s m args below meth c Q D A ka ws0 c0 s0 nL S.1 S.2.1 S.2.2.1 S.2.2.2) : PW p l e R s m args below meth c Q D A ka ws0 c0 s0 nL pc L st g := by
  unfold puni at h
  split at h
  · cases h
    intro ws tys H locs ls st1 hP hK hD hS hH hL hT hE hc hs
    obtain ⟨r1, e1, hT1⟩ := hT.int
    subst e1
    refine lv_i2l hx hb hd rfl ?_
    exact k ws tys H locs ls _ hP hK hD hS hH hL ⟨rfl, hT1⟩ hE hc hs
  · cases h
theorem w_i2b (hx : p.tables.exec = Jvm.exec) (hb : c.code = cc) (hd : decode cc pc = .ok (.i2b, 1)) (h : puni (fun x => .int x.toInt8.toInt32) (pc + 1) L g st = some S) (k : PW p l e R s m args below meth c Q D A ka ws0 c0 s0 nL S.1 S.2.1 S.2.2.1 S.2.2.2) : PW p l e R s m args below meth c Q D A ka ws0 c0 s0 nL pc L st g := by
  unfold puni at h
  split at h
  · cases h
    intro ws tys H locs ls st1 hP hK hD hS hH hL hT hE hc hs
    obtain ⟨r1, e1, hT1⟩ := hT.int
    subst e1
    refine lv_i2b hx hb hd rfl ?_
    exact k ws tys H locs ls _ hP hK hD hS hH hL ⟨rfl, hT1⟩ hE hc hs
  · cases h
theorem w_l2i (hx : p.tables.exec = Jvm.exec) (hb : c.code = cc) (hd : decode cc pc = .ok (.l2i, 1)) (h : punl (fun x => .int x.toInt32) (pc + 1) L g st = some S) (k : PW p l e R s m args below meth c Q D A ka ws0 c0 s0 nL S.1 S.2.1 S.2.2.1 S.2.2.2) : PW p l e R s m args below meth c Q D A ka ws0 c0 s0 nL pc L st g := by
  unfold punl at h
  split at h
  · cases h
    intro ws tys H locs ls st1 hP hK hD hS hH hL hT hE hc hs
    obtain ⟨r1, e1, hT1⟩ := hT.long
    subst e1
    refine lv_l2i hx hb hd rfl ?_
    exact k ws tys H locs ls _ hP hK hD hS hH hL ⟨rfl, hT1⟩ hE hc hs
  · cases h
theorem w_icmp_eq {off : Int} (hx : p.tables.exec = Jvm.exec) (hb : c.code = cc) (hd : decode cc pc = .ok (.if_icmp .eq off, 3)) (h : pif2 .eq pc (ptgt pc off) L g st = some S) (k : PW p l e R s m args below meth c Q D A ka ws0 c0 s0 nL S.1 S.2.1 S.2.2.1 S.2.2.2) : PW p l e R s m args below meth c Q D A ka ws0 c0 s0 nL pc L st g := by
  unfold pif2 at h
  split at h
  · cases hq : ptgt pc off with
    | none => rw [hq] at h; cases h
    | some t =>
      rw [hq] at h
      cases h
      intro ws tys H locs ls st1 hP hK hD hS hH hL hT hE hc hs
      obtain ⟨r1, e1, hT1⟩ := hT.int
      obtain ⟨r2, e2, hT2⟩ := hT1.int
      subst e2
      subst e1
      refine lv_icmp_eq hx hb hd (ptgt_ok hq) (fun hy => ?_) (fun hy => ?_)
      · have k1 := k ws tys H locs ls _ hP hK hD hS hH hL hT2 hE hc hs
        simp only [icmp, hy, decide_true, decide_false, not_false_eq_true, not_true_eq_false, cond_true, cond_false] at k1
        exact k1
      · have k1 := k ws tys H locs ls _ hP hK hD hS hH hL hT2 hE hc hs
        simp only [icmp, hy, decide_true, decide_false, not_false_eq_true, not_true_eq_false, cond_true, cond_false] at k1
        exact k1
  · cases h
theorem w_if_eq {off : Int} (hx : p.tables.exec = Jvm.exec) (hb : c.code = cc) (hd : decode cc pc = .ok (.ifCond .eq off, 3)) (h : pif1 .eq pc (ptgt pc off) L g st = some S) (k : PW p l e R s m args below meth c Q D A ka ws0 c0 s0 nL S.1 S.2.1 S.2.2.1 S.2.2.2) : PW p l e R s m args below meth c Q D A ka ws0 c0 s0 nL pc L st g := by
  unfold pif1 at h
  split at h
  · cases hq : ptgt pc off with
    | none => rw [hq] at h; cases h
    | some t =>
      rw [hq] at h
      cases h
      intro ws tys H locs ls st1 hP hK hD hS hH hL hT hE hc hs
      obtain ⟨r1, e1, hT1⟩ := hT.int
      subst e1
      refine lv_if_eq hx hb hd (ptgt_ok hq) (fun hy => ?_) (fun hy => ?_)
      · have k1 := k ws tys H locs ls _ hP hK hD hS hH hL hT1 hE hc hs
        simp only [icmp, hy, decide_true, decide_false, not_false_eq_true, not_true_eq_false, cond_true, cond_false] at k1
        exact k1
      · have k1 := k ws tys H locs ls _ hP hK hD hS hH hL hT1 hE hc hs
        simp only [icmp, hy, decide_true, decide_false, not_false_eq_true, not_true_eq_false, cond_true, cond_false] at k1
        exact k1
  · cases h
theorem w_icmp_ne {off : Int} (hx : p.tables.exec = Jvm.exec) (hb : c.code = cc) (hd : decode cc pc = .ok (.if_icmp .ne off, 3)) (h : pif2 .ne pc (ptgt pc off) L g st = some S) (k : PW p l e R s m args below meth c Q D A ka ws0 c0 s0 nL S.1 S.2.1 S.2.2.1 S.2.2.2) : PW p l e R s m args below meth c Q D A ka ws0 c0 s0 nL pc L st g := by
  unfold pif2 at h
  split at h
  · cases hq : ptgt pc off with
    | none => rw [hq] at h; cases h
    | some t =>
      rw [hq] at h
      cases h
      intro ws tys H locs ls st1 hP hK hD hS hH hL hT hE hc hs
      obtain ⟨r1, e1, hT1⟩ := hT.int
      obtain ⟨r2, e2, hT2⟩ := hT1.int
      subst e2
      subst e1
      refine lv_icmp_ne hx hb hd (ptgt_ok hq) (fun hy => ?_) (fun hy => ?_)
      · have k1 := k ws tys H locs ls _ hP hK hD hS hH hL hT2 hE hc hs
        simp only [icmp, hy, decide_true, decide_false, not_false_eq_true, not_true_eq_false, cond_true, cond_false] at k1
        exact k1
      · have k1 := k ws tys H locs ls _ hP hK hD hS hH hL hT2 hE hc hs
        simp only [icmp, hy, decide_true, decide_false, not_false_eq_true, not_true_eq_false, cond_true, cond_false] at k1
        exact k1
  · cases h
theorem w_if_ne {off : Int} (hx : p.tables.exec = Jvm.exec) (hb : c.code = cc) (hd : decode cc pc = .ok (.ifCond .ne off, 3)) (h : pif1 .ne pc (ptgt pc off) L g st = some S) (k : PW p l e R s m args below meth c Q D A ka ws0 c0 s0 nL S.1 S.2.1 S.2.2.1 S.2.2.2) : PW p l e R s m args below meth c Q D A ka ws0 c0 s0 nL pc L st g := by
  unfold pif1 at h
  split at h
  · cases hq : ptgt pc off with
    | none => rw [hq] at h; cases h
    | some t =>
      rw [hq] at h
      cases h
      intro ws tys H locs ls st1 hP hK hD hS hH hL hT hE hc hs
      obtain ⟨r1, e1, hT1⟩ := hT.int
      subst e1
      refine lv_if_ne hx hb hd (ptgt_ok hq) (fun hy => ?_) (fun hy => ?_)
      · have k1 := k ws tys H locs ls _ hP hK hD hS hH hL hT1 hE hc hs
        simp only [icmp, hy, decide_true, decide_false, not_false_eq_true, not_true_eq_false, cond_true, cond_false] at k1
        exact k1
      · have k1 := k ws tys H locs ls _ hP hK hD hS hH hL hT1 hE hc hs
        simp only [icmp, hy, decide_true, decide_false, not_false_eq_true, not_true_eq_false, cond_true, cond_false] at k1
        exact k1
  · cases h
theorem w_icmp_lt {off : Int} (hx : p.tables.exec = Jvm.exec) (hb : c.code = cc) (hd : decode cc pc = .ok (.if_icmp .lt off, 3)) (h : pif2 .lt pc (ptgt pc off) L g st = some S) (k : PW p l e R s m args below meth c Q D A ka ws0 c0 s0 nL S.1 S.2.1 S.2.2.1 S.2.2.2) : PW p l e R s m args below meth c Q D A ka ws0 c0 s0 nL pc L st g := by
  unfold pif2 at h
  split at h
  · cases hq : ptgt pc off with
    | none => rw [hq] at h; cases h
    | some t =>
      rw [hq] at h
      cases h
      intro ws tys H locs ls st1 hP hK hD hS hH hL hT hE hc hs
      obtain ⟨r1, e1, hT1⟩ := hT.int
      obtain ⟨r2, e2, hT2⟩ := hT1.int
      subst e2
      subst e1
      refine lv_icmp_lt hx hb hd (ptgt_ok hq) (fun hy => ?_) (fun hy => ?_)
      · have k1 := k ws tys H locs ls _ hP hK hD hS hH hL hT2 hE hc hs
        simp only [icmp, hy, decide_true, decide_false, not_false_eq_true, not_true_eq_false, cond_true, cond_false] at k1
        exact k1
      · have k1 := k ws tys H locs ls _ hP hK hD hS hH hL hT2 hE hc hs
        simp only [icmp, hy, decide_true, decide_false, not_false_eq_true, not_true_eq_false, cond_true, cond_false] at k1
        exact k1
  · cases h
theorem w_if_lt {off : Int} (hx : p.tables.exec = Jvm.exec) (hb : c.code = cc) (hd : decode cc pc = .ok (.ifCond .lt off, 3)) (h : pif1 .lt pc (ptgt pc off) L g st = some S) (k : PW p l e R s m args below meth c Q D A ka ws0 c0 s0 nL S.1 S.2.1 S.2.2.1 S.2.2.2) : PW p l e R s m args below meth c Q D A ka ws0 c0 s0 nL pc L st g := by
  unfold pif1 at h
  split at h
  · cases hq : ptgt pc off with
    | none => rw [hq] at h; cases h
    | some t =>
      rw [hq] at h
      cases h
      intro ws tys H locs ls st1 hP hK hD hS hH hL hT hE hc hs
      obtain ⟨r1, e1, hT1⟩ := hT.int
      subst e1
      refine lv_if_lt hx hb hd (ptgt_ok hq) (fun hy => ?_) (fun hy => ?_)
      · have k1 := k ws tys H locs ls _ hP hK hD hS hH hL hT1 hE hc hs
        simp only [icmp, hy, decide_true, decide_false, not_false_eq_true, not_true_eq_false, cond_true, cond_false] at k1
        exact k1
      · have k1 := k ws tys H locs ls _ hP hK hD hS hH hL hT1 hE hc hs
        simp only [icmp, hy, decide_true, decide_false, not_false_eq_true, not_true_eq_false, cond_true, cond_false] at k1
        exact k1
  · cases h
theorem w_icmp_ge {off : Int} (hx : p.tables.exec = Jvm.exec) (hb : c.code = cc) (hd : decode cc pc = .ok (.if_icmp .ge off, 3)) (h : pif2 .ge pc (ptgt pc off) L g st = some S) (k : PW p l e R s m args below meth c Q D A ka ws0 c0 s0 nL S.1 S.2.1 S.2.2.1 S.2.2.2) : PW p l e R s m args below meth c Q D A ka ws0 c0 s0 nL pc L st g := by
  unfold pif2 at h
  split at h
  · cases hq : ptgt pc off with
    | none => rw [hq] at h; cases h
    | some t =>
      rw [hq] at h
      cases h
      intro ws tys H locs ls st1 hP hK hD hS hH hL hT hE hc hs
      obtain ⟨r1, e1, hT1⟩ := hT.int
      obtain ⟨r2, e2, hT2⟩ := hT1.int
      subst e2
      subst e1
      refine lv_icmp_ge hx hb hd (ptgt_ok hq) (fun hy => ?_) (fun hy => ?_)
      · have k1 := k ws tys H locs ls _ hP hK hD hS hH hL hT2 hE hc hs
        simp only [icmp, hy, decide_true, decide_false, not_false_eq_true, not_true_eq_false, cond_true, cond_false] at k1
        exact k1
      · have k1 := k ws tys H locs ls _ hP hK hD hS hH hL hT2 hE hc hs
        simp only [icmp, hy, decide_true, decide_false, not_false_eq_true, not_true_eq_false, cond_true, cond_false] at k1
        exact k1
  · cases h
theorem w_if_ge {off : Int} (hx : p.tables.exec = Jvm.exec) (hb : c.code = cc) (hd : decode cc pc = .ok (.ifCond .ge off, 3)) (h : pif1 .ge pc (ptgt pc off) L g st = some S) (k : PW p l e R s m args below meth c Q D A ka ws0 c0 s0 nL S.1 S.2.1 S.2.2.1 S.2.2.2) : PW p l e R s m args below meth c Q D A ka ws0 c0 s0 nL pc L st g := by
  unfold pif1 at h
  split at h
  · cases hq : ptgt pc off with
    | none => rw [hq] at h; cases h
    | some t =>
      rw [hq] at h
      cases h
      intro ws tys H locs ls st1 hP hK hD hS hH hL hT hE hc hs
      obtain ⟨r1, e1, hT1⟩ := hT.int
      subst e1
      refine lv_if_ge hx hb hd (ptgt_ok hq) (fun hy => ?_) (fun hy => ?_)
      · have k1 := k ws tys H locs ls _ hP hK hD hS hH hL hT1 hE hc hs
        simp only [icmp, hy, decide_true, decide_false, not_false_eq_true, not_true_eq_false, cond_true, cond_false] at k1
        exact k1
      · have k1 := k ws tys H locs ls _ hP hK hD hS hH hL hT1 hE hc hs
        simp only [icmp, hy, decide_true, decide_false, not_false_eq_true, not_true_eq_false, cond_true, cond_false] at k1
        exact k1
  · cases h
theorem w_icmp_gt {off : Int} (hx : p.tables.exec = Jvm.exec) (hb : c.code = cc) (hd : decode cc pc = .ok (.if_icmp .gt off, 3)) (h : pif2 .gt pc (ptgt pc off) L g st = some S) (k : PW p l e R s m args below meth c Q D A ka ws0 c0 s0 nL S.1 S.2.1 S.2.2.1 S.2.2.2) : PW p l e R s m args below meth c Q D A ka ws0 c0 s0 nL pc L st g := by
  unfold pif2 at h
  split at h
  · cases hq : ptgt pc off with
    | none => rw [hq] at h; cases h
    | some t =>
      rw [hq] at h
      cases h
      intro ws tys H locs ls st1 hP hK hD hS hH hL hT hE hc hs
      obtain ⟨r1, e1, hT1⟩ := hT.int
      obtain ⟨r2, e2, hT2⟩ := hT1.int
      subst e2
      subst e1
      refine lv_icmp_gt hx hb hd (ptgt_ok hq) (fun hy => ?_) (fun hy => ?_)
      · have k1 := k ws tys H locs ls _ hP hK hD hS hH hL hT2 hE hc hs
        simp only [icmp, hy, decide_true, decide_false, not_false_eq_true, not_true_eq_false, cond_true, cond_false] at k1
        exact k1
      · have k1 := k ws tys H locs ls _ hP hK hD hS hH hL hT2 hE hc hs
        simp only [icmp, hy, decide_true, decide_false, not_false_eq_true, not_true_eq_false, cond_true, cond_false] at k1
        exact k1
  · cases h
theorem w_if_gt {off : Int} (hx : p.tables.exec = Jvm.exec) (hb : c.code = cc) (hd : decode cc pc = .ok (.ifCond .gt off, 3)) (h : pif1 .gt pc (ptgt pc off) L g st = some S) (k : PW p l e R s m args below meth c Q D A ka ws0 c0 s0 nL S.1 S.2.1 S.2.2.1 S.2.2.2) : PW p l e R s m args below meth c Q D A ka ws0 c0 s0 nL pc L st g := by
  unfold pif1 at h
  split at h
  · cases hq : ptgt pc off with
    | none => rw [hq] at h; cases h
    | some t =>
      rw [hq] at h
      cases h
      intro ws tys H locs ls st1 hP hK hD hS hH hL hT hE hc hs
      obtain ⟨r1, e1, hT1⟩ := hT.int
      subst e1
      refine lv_if_gt hx hb hd (ptgt_ok hq) (fun hy => ?_) (fun hy => ?_)
      · have k1 := k ws tys H locs ls _ hP hK hD hS hH hL hT1 hE hc hs
        simp only [icmp, hy, decide_true, decide_false, not_false_eq_true, not_true_eq_false, cond_true, cond_false] at k1
        exact k1
      · have k1 := k ws tys H locs ls _ hP hK hD hS hH hL hT1 hE hc hs
        simp only [icmp, hy, decide_true, decide_false, not_false_eq_true, not_true_eq_false, cond_true, cond_false] at k1
        exact k1
  · cases h
theorem w_icmp_le {off : Int} (hx : p.tables.exec = Jvm.exec) (hb : c.code = cc) (hd : decode cc pc = .ok (.if_icmp .le off, 3)) (h : pif2 .le pc (ptgt pc off) L g st = some S) (k : PW p l e R s m args below meth c Q D A ka ws0 c0 s0 nL S.1 S.2.1 S.2.2.1 S.2.2.2) : PW p l e R s m args below meth c Q D A ka ws0 c0 s0 nL pc L st g := by
  unfold pif2 at h
  split at h
  · cases hq : ptgt pc off with
    | none => rw [hq] at h; cases h
    | some t =>
      rw [hq] at h
      cases h
      intro ws tys H locs ls st1 hP hK hD hS hH hL hT hE hc hs
      obtain ⟨r1, e1, hT1⟩ := hT.int
      obtain ⟨r2, e2, hT2⟩ := hT1.int
      subst e2
      subst e1
      refine lv_icmp_le hx hb hd (ptgt_ok hq) (fun hy => ?_) (fun hy => ?_)
      · have k1 := k ws tys H locs ls _ hP hK hD hS hH hL hT2 hE hc hs
        simp only [icmp, hy, decide_true, decide_false, not_false_eq_true, not_true_eq_false, cond_true, cond_false] at k1
        exact k1
      · have k1 := k ws tys H locs ls _ hP hK hD hS hH hL hT2 hE hc hs
        simp only [icmp, hy, decide_true, decide_false, not_false_eq_true, not_true_eq_false, cond_true, cond_false] at k1
        exact k1
  · cases h
theorem w_if_le {off : Int} (hx : p.tables.exec = Jvm.exec) (hb : c.code = cc) (hd : decode cc pc = .ok (.ifCond .le off, 3)) (h : pif1 .le pc (ptgt pc off) L g st = some S) (k : PW p l e R s m args below meth c Q D A ka ws0 c0 s0 nL S.1 S.2.1 S.2.2.1 S.2.2.2) : PW p l e R s m args below meth c Q D A ka ws0 c0 s0 nL pc L st g := by
  unfold pif1 at h
  split at h
  · cases hq : ptgt pc off with
    | none => rw [hq] at h; cases h
    | some t =>
      rw [hq] at h
      cases h
      intro ws tys H locs ls st1 hP hK hD hS hH hL hT hE hc hs
      obtain ⟨r1, e1, hT1⟩ := hT.int
      subst e1
      refine lv_if_le hx hb hd (ptgt_ok hq) (fun hy => ?_) (fun hy => ?_)
      · have k1 := k ws tys H locs ls _ hP hK hD hS hH hL hT1 hE hc hs
        simp only [icmp, hy, decide_true, decide_false, not_false_eq_true, not_true_eq_false, cond_true, cond_false] at k1
        exact k1
      · have k1 := k ws tys H locs ls _ hP hK hD hS hH hL hT1 hE hc hs
        simp only [icmp, hy, decide_true, decide_false, not_false_eq_true, not_true_eq_false, cond_true, cond_false] at k1
        exact k1
  · cases h
theorem w_ifnonnull {off : Int} (hx : p.tables.exec = Jvm.exec) (hb : c.code = cc) (hd : decode cc pc = .ok (.ifnonnull off, 3)) (h : pifnn pc (ptgt pc off) L g st = some S) (k : PW p l e R s m args below meth c Q D A ka ws0 c0 s0 nL S.1 S.2.1 S.2.2.1 S.2.2.2) : PW p l e R s m args below meth c Q D A ka ws0 c0 s0 nL pc L st g := by
  unfold pifnn at h
  split at h
  · cases h
    intro ws tys H locs ls st1 hP hK hD hS hH hL hT hE hc hs
    obtain ⟨r1, e1, hT1⟩ := hT.null
    subst e1
    refine lv_ifnonnullN hx hb hd ?_
    exact k ws tys H locs ls _ hP hK hD hS hH hL hT1 hE hc hs
  · cases hq : ptgt pc off with
    | none => rw [hq] at h; cases h
    | some t =>
      rw [hq] at h
      cases h
      intro ws tys H locs ls st1 hP hK hD hS hH hL hT hE hc hs
      obtain ⟨a1, E1, r1, h3, e1, hT1⟩ := hT.ref
      subst e1
      refine lv_ifnonnull hx hb hd (ptgt_ok hq) ?_
      exact k ws tys H locs ls _ hP hK hD hS hH hL hT1 hE hc hs
  · cases hq : ptgt pc off with
    | none => rw [hq] at h; cases h
    | some t =>
      rw [hq] at h
      cases h
      intro ws tys H locs ls st1 hP hK hD hS hH hL hT hE hc hs
      obtain ⟨r1, e1, hT1⟩ := hT.con
      subst e1
      refine lv_ifnonnull hx hb hd (ptgt_ok hq) ?_
      exact k ws tys H locs ls _ hP hK hD hS hH hL hT1 hE hc hs
  · cases h
theorem w_goto {off : Int} (hx : p.tables.exec = Jvm.exec) (hb : c.code = cc) (hd : decode cc pc = .ok (.goto off, 3)) (h : ((ptgt pc off).map fun t => (t, L, st, g)) = some S) (k : PW p l e R s m args below meth c Q D A ka ws0 c0 s0 nL S.1 S.2.1 S.2.2.1 S.2.2.2) : PW p l e R s m args below meth c Q D A ka ws0 c0 s0 nL pc L st g := by
  cases hq : ptgt pc off with
  | none => rw [hq] at h; cases h
  | some t =>
    rw [hq] at h
    cases h
    intro ws tys H locs ls st1 hP hK hD hS hH hL hT hE hc hs
    refine lv_goto hx hb hd (ptgt_ok hq) ?_
    exact k ws tys H locs ls _ hP hK hD hS hH hL hT hE hc hs
theorem w_tsw {d lo hi : Int} {offs : Array Int} {len : Nat} (hx : p.tables.exec = Jvm.exec) (hb : c.code = cc) (hd : decode cc pc = .ok (.tableswitch d lo hi offs, len)) (h : ptsw d lo hi offs pc L g st = some S) (k : PW p l e R s m args below meth c Q D A ka ws0 c0 s0 nL S.1 S.2.1 S.2.2.1 S.2.2.2) : PW p l e R s m args below meth c Q D A ka ws0 c0 s0 nL pc L st g := by
  unfold ptsw at h
  split at h
  · split at h
    · next hn =>
      rw [Option.bind_some] at h
      cases hq : ptgt pc d with
      | none => rw [hq] at h; cases h
      | some t =>
        rw [hq] at h
        cases h
        intro ws tys H locs ls st1 hP hK hD hS hH hL hT hE hc hs
        obtain ⟨r1, e1, hT1⟩ := hT.int
        subst e1
        refine lv_tableOut hx hb hd hn (ptgt_ok hq) ?_
        exact k ws tys H locs ls _ hP hK hD hS hH hL hT1 hE hc hs
    · next x r hn =>
      cases ho : offs[(x.toInt - lo).toNat]? with
      | none => rw [ho] at h; cases h
      | some o =>
        rw [ho, Option.bind_some] at h
        cases hq : ptgt pc o with
        | none => rw [hq] at h; cases h
        | some t =>
          rw [hq] at h
          cases h
          intro ws tys H locs ls st1 hP hK hD hS hH hL hT hE hc hs
          obtain ⟨r1, e1, hT1⟩ := hT.int
          subst e1
          refine lv_tableIn hx hb hd (fun z => hn (Or.inl z)) (fun z => hn (Or.inr z)) ho (ptgt_ok hq) ?_
          exact k ws tys H locs ls _ hP hK hD hS hH hL hT1 hE hc hs
  · cases h
theorem w_lsw {d : Int} {ps : Array (Int × Int)} {len : Nat} (hx : p.tables.exec = Jvm.exec) (hb : c.code = cc) (hd : decode cc pc = .ok (.lookupswitch d ps, len)) (h : plsw d ps pc L g st = some S) (k : PW p l e R s m args below meth c Q D A ka ws0 c0 s0 nL S.1 S.2.1 S.2.2.1 S.2.2.2) : PW p l e R s m args below meth c Q D A ka ws0 c0 s0 nL pc L st g := by
  unfold plsw at h
  split at h
  · next x r =>
    cases hz : (ps.toList.zip (ps.toList.drop 1)).all (fun (a, next) => a.1 < next.1) with
    | false => rw [hz] at h; cases h
    | true =>
      rw [hz] at h
      dsimp only [cond_true] at h
      cases hq : ptgt pc (Op.lookupswitch.offset ps.toList d x.toInt) with
      | none => rw [hq] at h; cases h
      | some t =>
        rw [hq] at h
        cases h
        intro ws tys H locs ls st1 hP hK hD hS hH hL hT hE hc hs
        obtain ⟨r1, e1, hT1⟩ := hT.int
        subst e1
        refine lv_lookup hx hb hd hz rfl (ptgt_ok hq) ?_
        exact k ws tys H locs ls _ hP hK hD hS hH hL hT1 hE hc hs
  · cases h
theorem pcat1_ok {v : Value} (h : pcat1 v = true) : v.category = 1 := by
  cases v <;> simp_all [pcat1, Value.category]
theorem w_dup (hx : p.tables.exec = Jvm.exec) (hb : c.code = cc) (hd : decode cc pc = .ok (.dup, 1)) (h : pdup (pc + 1) L g st = some S) (k : PW p l e R s m args below meth c Q D A ka ws0 c0 s0 nL S.1 S.2.1 S.2.2.1 S.2.2.2) : PW p l e R s m args below meth c Q D A ka ws0 c0 s0 nL pc L st g := by
  unfold pdup at h
  split at h
  · next v r =>
    cases hz : pcat1 v with
    | false => rw [hz] at h; cases h
    | true =>
      rw [hz] at h
      cases h
      intro ws tys H locs ls st1 hP hK hD hS hH hL hT hE hc hs
      obtain ⟨w, r1, e1, hv, hT1⟩ := hT.cons
      subst e1
      refine lv_dup hx hb hd (by rw [hv.cat]; exact pcat1_ok hz) ?_
      exact k ws tys H locs ls _ hP hK hD hS hH hL ⟨hv, hv, hT1⟩ hE hc hs
  · cases h
theorem w_pop (hx : p.tables.exec = Jvm.exec) (hb : c.code = cc) (hd : decode cc pc = .ok (.pop, 1)) (h : ppop (pc + 1) L g st = some S) (k : PW p l e R s m args below meth c Q D A ka ws0 c0 s0 nL S.1 S.2.1 S.2.2.1 S.2.2.2) : PW p l e R s m args below meth c Q D A ka ws0 c0 s0 nL pc L st g := by
  unfold ppop at h
  split at h
  · next v r =>
    cases hz : pcat1 v with
    | false => rw [hz] at h; cases h
    | true =>
      rw [hz] at h
      cases h
      intro ws tys H locs ls st1 hP hK hD hS hH hL hT hE hc hs
      obtain ⟨w, r1, e1, hv, hT1⟩ := hT.cons
      subst e1
      refine lv_pop hx hb hd (by rw [hv.cat]; exact pcat1_ok hz) ?_
      exact k ws tys H locs ls _ hP hK hD hS hH hL hT1 hE hc hs
  · cases h
theorem w_dup2 (hx : p.tables.exec = Jvm.exec) (hb : c.code = cc) (hd : decode cc pc = .ok (.dup2, 1)) (h : pdup2 (pc + 1) L g st = some S) (k : PW p l e R s m args below meth c Q D A ka ws0 c0 s0 nL S.1 S.2.1 S.2.2.1 S.2.2.2) : PW p l e R s m args below meth c Q D A ka ws0 c0 s0 nL pc L st g := by
  unfold pdup2 at h
  split at h
  · next v v2 r =>
    cases hz : pcat1 v && pcat1 v2 with
    | false => rw [hz] at h; cases h
    | true =>
      rw [hz] at h
      cases h
      intro ws tys H locs ls st1 hP hK hD hS hH hL hT hE hc hs
      obtain ⟨w, r1, e1, hv, hT1⟩ := hT.cons
      obtain ⟨w2, r2, e2, hv2, hT2⟩ := hT1.cons
      subst e2
      subst e1
      rw [Bool.and_eq_true] at hz
      refine lv_dup2_11 hx hb hd (by rw [hv.cat]; exact pcat1_ok hz.1) (by rw [hv2.cat]; exact pcat1_ok hz.2) ?_
      exact k ws tys H locs ls _ hP hK hD hS hH hL ⟨hv, hv2, hv, hv2, hT2⟩ hE hc hs
  · cases h
end StepA
