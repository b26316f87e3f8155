section MyCopy
variable {p : Program} {l : Launch} {e : Env} {R : Room} {s : State} {m : MethodId} {args : Array Value} {below : List Frame} {meth : Method} {c : Code} {H : Heap} {locs : List Loc} {cells slots : Nat} {Q : State → Prop}
variable {cc : ByteArray} {pc : Nat} {ls : Array Slot} {rest : List Value} {D : va_G} {cl : List vw_C} {A : Nat → Prop} {a : Nat} {tys : List (ClassId × FieldType)} {ws : va_W} {H0 : Heap}
theorem my_copyt (hexec : p.tables.exec = Jvm.exec) (hb : c.code = cc) (hml : c.maxLocals = ls.size) {own : String} {index : Nat} (hown : s.vm.findClass own = some m.cls) (hlink : (Cond.methodLink own index arraycopyName).before args s = true) (hnat : (Cond.native arraycopyName).before args s = true) (hstat : (Cond.static arraycopyName).before args s = true) (hini : (Cond.initialized "java/lang/System").before args s = true)
    (hK : va_K D cl tys s) (hP : va_P D cl ws H) (hD : va_D A ws) (hS : va_S A s.heap H locs) {b0 n0 : Nat} {f : Nat → Int32} (hX : va_T .int b0 n0 (fun j => .int (f j)) A s s.heap) (q1 t1 : Nat) {c1 : ClassId} {n1 : Nat} {g : Nat → Int32} (ha1 : ws[q1]? = some (a, .inl (c1, n1, .inl g))) (ht1 : tys[t1]? = some (c1, .int))
    {sp dp n : Int32} (h1 : ¬ sp < 0) (h2 : ¬ dp < 0) (h3 : ¬ n < 0) (h4 : sp.toNatClampNeg + n.toNatClampNeg ≤ n0) (h5 : dp.toNatClampNeg + n.toNatClampNeg ≤ n1) (hfit : ∀ i : Nat, i < n.toNatClampNeg → fits .int (.int (f (sp.toNatClampNeg + i))) = true)
    (hframes : 1 ≤ R.frames) (hlocals : (rest.map fun v => v.category).sum + (nativeFrameWords "java/lang/System" "arraycopy" 5 + 11) ≤ R.locals) (hdg : decode cc pc = .ok (.invokestatic index, 3))
    (kk : ∀ (H1 : Heap) (locs1 : List Loc), va_P D cl (ws.set q1 (a, .inl (c1, n1, .inl (va_cpy f g sp.toNatClampNeg dp.toNatClampNeg n.toNatClampNeg)))) H1 → va_D A (ws.set q1 (a, .inl (c1, n1, .inl (va_cpy f g sp.toNatClampNeg dp.toNatClampNeg n.toNatClampNeg)))) → va_S A s.heap H1 locs1 → W p l e R s m args below meth c H1 locs1 cells slots Q (F0 m (pc + 3) ls rest)) : W p l e R s m args below meth c H locs cells slots Q (F0 m pc ls (.int n :: .int dp :: .ref a :: .int sp :: .ref b0 :: rest)) := by
  have nn : ∀ z : Int32, ¬ z < 0 → z.toInt = (z.toNatClampNeg : Int) := by
    intro z hz
    have hz0 : (0 : Int) ≤ z.toInt := by
      have := Int32.not_lt.mp hz
      simpa using Int32.le_iff_toInt_le.mp this
    show z.toInt = ((z.toInt.toNat : Nat) : Int)
    omega
  intro T hT X
  obtain ⟨scr, hs1, hs2, hs3, hs4, -, hs5, hs7⟩ := hX
  have hc0 : H[b0]? = some scr := by rw [hS.2.1 b0 (Array.getElem?_eq_some_iff.mp hs1).1 hs7]; exact hs1
  have hc1 : H[a]? = some (vp_cell c1 (n1, .inl g)) := hP q1 _ ha1
  obtain ⟨hs6, k0, hk0, cm0, hkk0⟩ := hs2
  obtain ⟨-, k1, hk1, cm1, hkk1⟩ := (hK.2 t1 _ ht1).1 n1 (fun j => .int (g j))
  obtain ⟨vm', X', step⟩ := X.arraycopy hexec hown hlink hnat hstat hini (src := b0) (dst := a) (cs := scr) (cd := vp_cell c1 (n1, .inl g)) (srcPos := sp) (destPos := dp) (n := n) (by rw [hT]; exact hc0) (by rw [hT]; exact hc1)
    hs6 (fun _ h => by cases h) hs3 (fun h => by cases h) hk0 hk1 hkk0 hkk1 (by simp [refKind]) h1 h2 h3
    (by rw [nn sp h1, nn n h3]; omega)
    (by rw [nn dp h2, nn n h3]; show ¬ _ > ((arrV c1 n1 (fun j => .int (g j))).slots.size : Int); rw [arrV_size]; omega)
    (fun vm₁ _ i hi => by
      have e : scr.slots.getD (sp.toNatClampNeg + i) .null = .int (f (sp.toNatClampNeg + i)) := by
        rw [Array.getD_eq_getD_getElem?, hs5 _ (by omega)]
        rfl
      refine ⟨?_, ?_⟩
      · rw [e]
        exact hfit i hi
      · rw [e]
        exact trivial)
    (g := F0 m pc ls (.int n :: .int dp :: .ref a :: .int sp :: .ref b0 :: rest)) rfl (by rw [hml]) (rest := rest) rfl (by rw [hb]; exact hdg) hframes (by show 2 * 0 + _ + _ ≤ _; omega)
  have e1 : copied scr (vp_cell c1 (n1, .inl g)) sp dp n = vp_cell c1 (n1, .inl (va_cpy f g sp.toNatClampNeg dp.toNatClampNeg n.toNatClampNeg)) := va_copiedX (fun z => .int z) scr c1 f g hs5 h4
  rw [e1] at X' step
  have hl : a < H.size := (Array.getElem?_eq_some_iff.mp hc1).1
  have hheap : ((T.setVm vm').setCell a (vp_cell c1 (n1, .inl (va_cpy f g sp.toNatClampNeg dp.toNatClampNeg n.toNatClampNeg)))).heap = H.setIfInBounds a (vp_cell c1 (n1, .inl (va_cpy f g sp.toNatClampNeg dp.toNatClampNeg n.toNatClampNeg))) := by rw [← hT]; rfl
  have oq : ∀ q : Nat, q ≠ a → (H.setIfInBounds a (vp_cell c1 (n1, .inl (va_cpy f g sp.toNatClampNeg dp.toNatClampNeg n.toNatClampNeg))))[q]? = H[q]? := fun q hq => by simp [Array.getElem?_setIfInBounds, Ne.symm hq]
  obtain ⟨t, a1, b1⟩ := kk _ _ (hP.set hD ha1 (show (H.setIfInBounds a _)[a]? = some _ by simp [Array.getElem?_setIfInBounds, hl]) oq) (hD.set ha1) ⟨by simp; exact hS.1, fun q g1 g2 => by
      rw [oq q (fun e => g2 (by rw [e]; exact hD.2 q1 _ ha1))]
      exact hS.2.1 q g1 g2, fun q hq => by
      rcases List.mem_append.mp hq with h | h
      · exact hS.2.2 q h
      · obtain ⟨z, -, hz⟩ := List.mem_map.mp h
        rw [← hz]
        exact hD.2 q1 _ ha1⟩ _ hheap X'
  exact ⟨t, step t a1, b1⟩
end MyCopy
theorem HRel.pushL {ka : Nat → Nat} {ws : va_W} {tys tys' : List (ClassId × FieldType)} {h h2 : List PO} {w2 : va_W} (H : HRel ka ws tys h) (ht : ∀ q ∈ tys, q ∈ tys') (hl : w2.length = h2.length) (hn : ∀ (k : Nat) (o : PO), h2[k]? = some o → ∃ a E, w2[k]? = some (a, E) ∧ CRel ka (ws ++ w2) tys' o E) : HRel ka (ws ++ w2) tys' (h ++ h2) := by
  refine ⟨by rw [List.length_append, List.length_append, H.1, hl], fun j x hj => ?_⟩
  by_cases hjl : j < h.length
  · rw [List.getElem?_append_left hjl] at hj
    obtain ⟨b, F, h1, h2⟩ := H.2 j x hj
    exact ⟨b, F, by rw [List.getElem?_append_left (by rw [H.1]; exact hjl)]; exact h1, h2.ext (Ext.app _) ht⟩
  · rw [List.getElem?_append_right (by omega)] at hj
    obtain ⟨a, E, h1, h2⟩ := hn _ x hj
    exact ⟨a, E, by rw [List.getElem?_append_right (by rw [H.1]; omega), H.1]; exact h1, h2⟩
theorem HRel.push1 {ka : Nat → Nat} {ws : va_W} {tys tys' : List (ClassId × FieldType)} {h : List PO} {a : Nat} {E : va_E} {o : PO} (H : HRel ka ws tys h) (ht : ∀ q ∈ tys, q ∈ tys') (ho : CRel ka (ws ++ [(a, E)]) tys' o E) : HRel ka (ws ++ [(a, E)]) tys' (h ++ [o]) := by
  refine H.pushL ht rfl (fun k x hk => ?_)
  have hz : k < 1 := (List.getElem?_eq_some_iff.mp hk).1
  rw [show k = 0 by omega] at hk ⊢
  cases hk
  exact ⟨a, E, rfl, ho⟩
theorem VRel.last {ka : Nat → Nat} {ws : va_W} {tys : List (ClassId × FieldType)} {h : List PO} {a : Nat} {E : va_E} {w2 : va_W} (H : HRel ka ws tys h) : VRel ka (ws ++ (a, E) :: w2) (.ref h.length) (.ref a) := ⟨a, E, by rw [← H.1, List.getElem?_append_right (Nat.le_refl _), Nat.sub_self]; rfl, rfl⟩
def isPlain : Value → Bool
  | .int _ => true
  | .long _ => true
  | .null => true
  | _ => false
theorem SRel.plain {ka : Nat → Nat} {ws : va_W} : ∀ {l : List Value}, l.all isPlain = true → SRel ka ws l l
  | [], _ => trivial
  | v :: l, h => by
    rw [List.all_cons, Bool.and_eq_true] at h
    refine ⟨?_, SRel.plain h.2⟩
    cases v with
    | int x => exact rfl
    | long x => exact rfl
    | null => exact rfl
    | _ => simp [isPlain] at h
theorem dfl_plain {ci : Nat} {C : String} {T : u_T} {N : Nat} (h : classes[ci]? = some (C, T, N)) : (dfl ci).all isPlain = true := by
  match ci, h with
  | 0, h => rfl
  | 1, h => rfl
  | 2, h => rfl
  | 3, h => rfl
  | 4, h => rfl
  | 5, h => rfl
  | 6, h => rfl
  | 7, h => rfl
  | 8, h => rfl
  | 9, h => rfl
  | 10, h => rfl
  | 11, h => rfl
  | n + 12, h => simp [classes] at h
section StepC
variable {p : Program} {l : Launch} {e : Env} {R : Room} {s : State} {m : MethodId} {args : Array Value} {below : List Frame} {meth : Method} {c : Code} {Q : State → Prop} {D : va_G} {A : Nat → Prop} {ka : Nat → Nat} {ws0 : va_W} {c0 s0 nL : Nat} {cc : ByteArray} {pc : Nat} {L : PL} {st : List Value} {g : PG} {S : PS} {own : Nat} {ini : Bool} {K : PK}
theorem w_new {i : Nat} (Ev : EnvOK p R s m args meth c cc own ini nL A ka K) (hr : S.2.2.2.2.1 ≤ c0 + R.cells ∧ S.2.2.2.2.2 ≤ s0 + R.slots) (hd : decode cc pc = .ok (.new i, 3)) (h : ppnew (pnew own i) (pc + 3) L st g = some S) (k : PW p l e R s m args below meth c Q D A ka ws0 c0 s0 nL S.1 S.2.1 S.2.2.1 S.2.2.2) : PW p l e R s m args below meth c Q D A ka ws0 c0 s0 nL pc L st g := by
  obtain ⟨hx, hb, hml, hown, hts, hnw, hCE, hA, hin, -, -⟩ := Ev
  unfold ppnew at h
  cases hp : pnew own i with
  | none => rw [hp] at h; cases h
  | some ci =>
    rw [hp] at h
    cases h
    obtain ⟨C, T, N, hc1, h1, h2, h3⟩ := pnew_ok hp
    obtain ⟨hu, hnm, hty, hlen, hdf⟩ := cls_ok hc1
    dsimp only at hr
    intro ws tys H locs ls st1 hP hK hD hS hH hL hT hE hc hs
    refine va_new hx hb hts hu (tyOf ci) hty hown (hts _ h1) (hts _ h2) (hts _ h3) hK hP hD hS hA hc1 (fs := dfl ci) hdf (by omega) (by omega) hd (fun q H1 hP1 hD1 hS1 => ?_)
    refine W.cs (cells' := g.2.1 + 1 - c0) (slots' := g.2.2 + (dfl ci).length - s0) (by omega) (by omega) ?_
    exact k (ws ++ [(q, .inr (ci, dfl ci))]) tys H1 locs ls _ hP1 hK hD1 hS1 (hH.push1 (fun _ h => h) ⟨_, rfl, SRel.plain (dfl_plain hc1)⟩) (hL.ext (Ext.app _)) ⟨VRel.last hH, hT.ext (Ext.app _)⟩ (hE.trans (Ext.app _)) (Nat.le_succ_of_le hc) (Nat.le_trans hs (Nat.le_add_right _ _))
theorem w_newa {t : ArrayType} (Ev : EnvOK p R s m args meth c cc own ini nL A ka K) (hr : S.2.2.2.2.1 ≤ c0 + R.cells ∧ S.2.2.2.2.2 ≤ s0 + R.slots) (hd : decode cc pc = .ok (.newarray t, 2)) (h : pnewa t (pc + 2) L g st = some S) (k : PW p l e R s m args below meth c Q D A ka ws0 c0 s0 nL S.1 S.2.1 S.2.2.1 S.2.2.2) : PW p l e R s m args below meth c Q D A ka ws0 c0 s0 nL pc L st g := by
  obtain ⟨hx, hb, hml, hown, hts, hnw, hCE, hA, hin, -, -⟩ := Ev
  unfold pnewa at h
  split at h
  · next n r =>
    cases hq : decide (¬ n < 0) && Nat.ble n.toNatClampNeg 1000000 with
    | false => rw [hq] at h; cases h
    | true =>
      rw [hq] at h
      dsimp only [cond_true] at h
      rw [Bool.and_eq_true, decide_eq_true_eq] at hq
      have hle : n.toNatClampNeg ≤ 1000000 := Nat.le_of_ble_eq_true hq.2
      split at h
      · cases h
        dsimp only at hr
        intro ws tys H locs ls st1 hP hK hD hS hH hL hT hE hc hs
        obtain ⟨r1, e1, hT1⟩ := hT.int
        subst e1
        refine va_newa (atype := .int) hx hb (hts _ arc_int) (ty := .int) rfl hK hP hD hS hA (a0 := (n.toNatClampNeg, .inl (fun _ => 0))) (fun _ => rfl) hq.1 rfl (Nat.le_trans (Nat.mul_le_mul_right _ hle) (by decide)) (by omega) (by omega) hd (fun q cA H1 hK1 hP1 hD1 hS1 => ?_)
        refine W.cs (cells' := g.2.1 + 1 - c0) (slots' := g.2.2 + n.toNatClampNeg - s0) (by omega) (by omega) ?_
        exact k (ws ++ [(q, .inl (cA, n.toNatClampNeg, .inl (fun _ => 0)))]) (tys ++ [(cA, .int)]) H1 locs ls _ hP1 hK1 hD1 hS1 (hH.push1 (fun _ h => List.mem_append_left _ h) ⟨cA, rfl, List.mem_append_right _ List.mem_cons_self⟩) (hL.ext (Ext.app _)) ⟨VRel.last hH, hT1.ext (Ext.app _)⟩ (hE.trans (Ext.app _)) (Nat.le_succ_of_le hc) (Nat.le_trans hs (Nat.le_add_right _ _))
      · cases h
        dsimp only at hr
        intro ws tys H locs ls st1 hP hK hD hS hH hL hT hE hc hs
        obtain ⟨r1, e1, hT1⟩ := hT.int
        subst e1
        refine va_newa (atype := .byte) hx hb (hts _ arc_byte) (ty := .byte) rfl hK hP hD hS hA (a0 := (n.toNatClampNeg, .inl (fun _ => 0))) (fun _ => rfl) hq.1 rfl (Nat.le_trans (Nat.mul_le_mul_right _ hle) (by decide)) (by omega) (by omega) hd (fun q cA H1 hK1 hP1 hD1 hS1 => ?_)
        refine W.cs (cells' := g.2.1 + 1 - c0) (slots' := g.2.2 + n.toNatClampNeg - s0) (by omega) (by omega) ?_
        exact k (ws ++ [(q, .inl (cA, n.toNatClampNeg, .inl (fun _ => 0)))]) (tys ++ [(cA, .byte)]) H1 locs ls _ hP1 hK1 hD1 hS1 (hH.push1 (fun _ h => List.mem_append_left _ h) ⟨cA, rfl, List.mem_append_right _ List.mem_cons_self⟩) (hL.ext (Ext.app _)) ⟨VRel.last hH, hT1.ext (Ext.app _)⟩ (hE.trans (Ext.app _)) (Nat.le_succ_of_le hc) (Nat.le_trans hs (Nat.le_add_right _ _))
      · cases h
        dsimp only at hr
        intro ws tys H locs ls st1 hP hK hD hS hH hL hT hE hc hs
        obtain ⟨r1, e1, hT1⟩ := hT.int
        subst e1
        refine va_newa (atype := .long) hx hb (hts _ arc_long) (ty := .long) rfl hK hP hD hS hA (a0 := (n.toNatClampNeg, .inr (.inl (fun _ => 0)))) (fun _ => rfl) hq.1 rfl (Nat.le_trans (Nat.mul_le_mul_right _ hle) (by decide)) (by omega) (by omega) hd (fun q cA H1 hK1 hP1 hD1 hS1 => ?_)
        refine W.cs (cells' := g.2.1 + 1 - c0) (slots' := g.2.2 + n.toNatClampNeg - s0) (by omega) (by omega) ?_
        exact k (ws ++ [(q, .inl (cA, n.toNatClampNeg, .inr (.inl (fun _ => 0))))]) (tys ++ [(cA, .long)]) H1 locs ls _ hP1 hK1 hD1 hS1 (hH.push1 (fun _ h => List.mem_append_left _ h) ⟨cA, rfl, List.mem_append_right _ List.mem_cons_self⟩) (hL.ext (Ext.app _)) ⟨VRel.last hH, hT1.ext (Ext.app _)⟩ (hE.trans (Ext.app _)) (Nat.le_succ_of_le hc) (Nat.le_trans hs (Nat.le_add_right _ _))
      · cases h
  · cases h
theorem w_anew {i : Nat} (Ev : EnvOK p R s m args meth c cc own ini nL A ka K) (hr : S.2.2.2.2.1 ≤ c0 + R.cells ∧ S.2.2.2.2.2 ≤ s0 + R.slots) (hd : decode cc pc = .ok (.anewarray i, 3)) (h : panew (pnew own i) (pc + 3) L g st = some S) (k : PW p l e R s m args below meth c Q D A ka ws0 c0 s0 nL S.1 S.2.1 S.2.2.1 S.2.2.2) : PW p l e R s m args below meth c Q D A ka ws0 c0 s0 nL pc L st g := by
  obtain ⟨hx, hb, hml, hown, hts, hnw, hCE, hA, hin, -, -⟩ := Ev
  unfold panew at h
  split at h
  · next n r =>
    cases hq : decide (¬ n < 0) && (Nat.ble n.toNatClampNeg 1000000 && decide (pnew own i = some 0)) with
    | false => rw [hq] at h; cases h
    | true =>
      rw [hq] at h
      cases h
      simp only [Bool.and_eq_true, decide_eq_true_eq] at hq
      have hle : n.toNatClampNeg ≤ 1000000 := Nat.le_of_ble_eq_true hq.2.1
      obtain ⟨C, T, N, hc1, h1, h2, h3⟩ := pnew_ok hq.2.2
      cases hc1
      dsimp only at hr
      intro ws tys H locs ls st1 hP hK hD hS hH hL hT hE hc hs
      obtain ⟨r1, e1, hT1⟩ := hT.int
      subst e1
      refine va_newq hx hb hown (hts _ h1) hCE.2.2.2.1 hK hP hD hS hA hq.1 rfl (Nat.le_trans (Nat.mul_le_mul_right _ hle) (by decide)) (by omega) (by omega) hd (fun q cA H1 hK1 hP1 hD1 hS1 => ?_)
      refine W.cs (cells' := g.2.1 + 1 - c0) (slots' := g.2.2 + n.toNatClampNeg - s0) (by omega) (by omega) ?_
      exact k (ws ++ [(q, .inl (cA, n.toNatClampNeg, .inr (.inr (.inr (.inr (fun _ => none))))))]) (tys ++ [(cA, .object "ThreeLadders$Code")]) H1 locs ls _ hP1 hK1 hD1 hS1 (hH.push1 (fun _ h => List.mem_append_left _ h) ⟨cA, _, rfl, List.mem_append_right _ List.mem_cons_self, fun _ _ => (show ORel _ none none from trivial)⟩) (hL.ext (Ext.app _)) ⟨VRel.last hH, hT1.ext (Ext.app _)⟩ (hE.trans (Ext.app _)) (Nat.le_succ_of_le hc) (Nat.le_trans hs (Nat.le_add_right _ _))
  · cases h
theorem w_obj {i : Nat} (Ev : EnvOK p R s m args meth c cc own ini nL A ka K) (hd : decode cc pc = .ok (.invokespecial i, 3)) (h : pobj own i (pc + 3) L g st = some S) (k : PW p l e R s m args below meth c Q D A ka ws0 c0 s0 nL S.1 S.2.1 S.2.2.1 S.2.2.2) : PW p l e R s m args below meth c Q D A ka ws0 c0 s0 nL pc L st g := by
  obtain ⟨hx, hb, hml, hown, hts, hnw, hCE, hA, hin, hf, hlo⟩ := Ev
  unfold pobj at h
  split at h
  · next a r =>
    cases hq : obL.elem (own, i) && Nat.ble (pwords r) 8 with
    | false => rw [hq] at h; cases h
    | true =>
      rw [hq] at h
      cases h
      rw [Bool.and_eq_true] at hq
      intro ws tys H locs ls st1 hP hK hD hS hH hL hT hE hc hs
      obtain ⟨a1, E1, r1, h1, e1, hT1⟩ := hT.ref
      subst e1
      have hsz : ls.size = nL := by obtain ⟨-, lv, hlv, -⟩ := hL; exact hlv.1
      have hw : pwords r1 ≤ 8 := by rw [hT1.words]; exact Nat.le_of_ble_eq_true hq.2
      refine W.objInit hx hb hown (hts _ (obL_ok _ (List.elem_iff.mp hq.1))) (hts _ ob_i) (hts _ ob_c) (g := F0 m pc ls (.ref a1 :: r1)) rfl (by rw [hml]; exact hsz) rfl hd hf (by show 2 * 0 + pwords r1 + 12 ≤ R.locals; omega) ?_
      exact k ws tys H locs ls _ hP hK hD hS hH hL hT1 hE hc hs
  · cases h
theorem w_acp {i : Nat} (Ev : EnvOK p R s m args meth c cc own ini nL A ka K) (hd : decode cc pc = .ok (.invokestatic i, 3)) (h : pacp K own i (pc + 3) L g st = some S) (k : PW p l e R s m args below meth c Q D A ka ws0 c0 s0 nL S.1 S.2.1 S.2.2.1 S.2.2.2) : PW p l e R s m args below meth c Q D A ka ws0 c0 s0 nL pc L st g := by
  obtain ⟨hx, hb, hml, hown, hts, hnw, hCE, hA, hin, hf, hlo⟩ := Ev
  unfold pacp at h
  split at h
  · next n dp b sp a r =>
    cases hq : acL.elem (own, i) && Nat.ble (pwords r) 8 with
    | false => rw [hq] at h; cases h
    | true =>
      rw [hq] at h
      dsimp only [cond_true] at h
      rw [Bool.and_eq_true] at hq
      split at h
      · next n0 f n1 f1 ha hbb =>
        split at h
        · next hz =>
          cases h
          obtain ⟨z1, z2, z3, z4, z5⟩ := hz
          intro ws tys H locs ls st1 hP hK hD hS hH hL hT hE hc hs
          obtain ⟨r0, e0, hT0⟩ := hT.int
          obtain ⟨r1, e1, hT1⟩ := hT0.int
          obtain ⟨b1, F1, r2, hb1, e2, hT2⟩ := hT1.ref
          obtain ⟨r3, e3, hT3⟩ := hT2.int
          obtain ⟨a1, E1, r4, ha1, e4, hT4⟩ := hT3.ref
          subst e4
          subst e3
          subst e2
          subst e1
          subst e0
          have hsz : ls.size = nL := by obtain ⟨-, lv, hlv, -⟩ := hL; exact hlv.1
          have hw : pwords r4 ≤ 8 := by rw [hT4.words]; exact Nat.le_of_ble_eq_true hq.2
          obtain ⟨cA, e5, h5⟩ := hH.get ha ha1
          subst e5
          obtain ⟨cB, e6, h6⟩ := hH.get hbb hb1
          subst e6
          obtain ⟨t0, ht0⟩ := List.getElem?_of_mem h5
          obtain ⟨t1, ht1⟩ := List.getElem?_of_mem h6
          have hEx := Ext.set hb1 (.inl (cB, n1, .inl (va_cpy f f1 sp.toNatClampNeg dp.toNatClampNeg n.toNatClampNeg)))
          refine va_copyi hx hb (by rw [hml, hsz]) hown (hts _ (acL_ok _ (List.elem_iff.mp hq.1))) (hts _ ac_n) (hts _ ac_s) (hts _ ac_i) hK hP hD hS a b t0 t1 ha1 hb1 ht0 ht1 rfl z1 z2 z3 z4 z5 (fun _ _ => rfl) hf (by show pwords r4 + (nativeFrameWords "java/lang/System" "arraycopy" 5 + 11) ≤ R.locals; have : nativeFrameWords "java/lang/System" "arraycopy" 5 ≤ 20 := (by decide); omega) hd (fun H1 locs1 hP1 hD1 hS1 => ?_)
          exact k _ tys H1 locs1 ls _ hP1 hK hD1 hS1 (hH.put hb1 ⟨cB, rfl, h6⟩) (hL.ext hEx) (hT4.ext hEx) (hE.trans hEx) hc hs
        · cases h
      · cases h
  · next n dp b sp a r =>
    cases hq : acL.elem (own, i) && Nat.ble (pwords r) 8 with
    | false => rw [hq] at h; cases h
    | true =>
      rw [hq] at h
      dsimp only [cond_true] at h
      rw [Bool.and_eq_true] at hq
      split at h
      · next n0 f n1 f1 ha hbb =>
        split at h
        · next hz =>
          cases h
          obtain ⟨z1, z2, z3, z4, z5⟩ := hz
          intro ws tys H locs ls st1 hP hK hD hS hH hL hT hE hc hs
          obtain ⟨r0, e0, hT0⟩ := hT.int
          obtain ⟨r1, e1, hT1⟩ := hT0.int
          obtain ⟨b1, F1, r2, hb1, e2, hT2⟩ := hT1.ref
          obtain ⟨r3, e3, hT3⟩ := hT2.int
          obtain ⟨r4, e4, hT4⟩ := hT3.con
          subst e4
          subst e3
          subst e2
          subst e1
          subst e0
          have hsz : ls.size = nL := by obtain ⟨-, lv, hlv, -⟩ := hL; exact hlv.1
          have hw : pwords r4 ≤ 8 := by rw [hT4.words]; exact Nat.le_of_ble_eq_true hq.2
          obtain ⟨cB, e6, h6⟩ := hH.get hbb hb1
          subst e6
          obtain ⟨t1, ht1⟩ := List.getElem?_of_mem h6
          have hEx := Ext.set hb1 (.inl (cB, n1, .inl (va_cpy f f1 sp.toNatClampNeg dp.toNatClampNeg n.toNatClampNeg)))
          refine my_copyt hx hb (by rw [hml, hsz]) hown (hts _ (acL_ok _ (List.elem_iff.mp hq.1))) (hts _ ac_n) (hts _ ac_s) (hts _ ac_i) hK hP hD hS (hCE.2.1 _ _ _ ha) b t1 hb1 ht1 z1 z2 z3 z4 z5 (fun _ _ => rfl) hf (by show pwords r4 + (nativeFrameWords "java/lang/System" "arraycopy" 5 + 11) ≤ R.locals; have : nativeFrameWords "java/lang/System" "arraycopy" 5 ≤ 20 := (by decide); omega) hd (fun H1 locs1 hP1 hD1 hS1 => ?_)
          exact k _ tys H1 locs1 ls _ hP1 hK hD1 hS1 (hH.put hb1 ⟨cB, rfl, h6⟩) (hL.ext hEx) (hT4.ext hEx) (hE.trans hEx) hc hs
        · cases h
      · cases h
  · cases h
end StepC
