/-! what of the pure machine belongs to what of the machine -/
def VRel (ka : Nat → Nat) (ws : va_W) : Value → Value → Prop
  | .ref k, v => ∃ a E, ws[k]? = some (a, E) ∧ v = .ref a
  | .retAddr n, v => v = .ref (ka n)
  | .int x, v => v = .int x
  | .long x, v => v = .long x
  | .null, v => v = .null
  | _, _ => False
def SRel (ka : Nat → Nat) (ws : va_W) : List Value → List Value → Prop
  | [], [] => True
  | v :: l, w :: m => VRel ka ws v w ∧ SRel ka ws l m
  | _, _ => False
def ORel (ws : va_W) : Option Nat → Option Nat → Prop
  | none, none => True
  | some k, some a => ∃ E, ws[k]? = some (a, E)
  | _, _ => False
def CRel (ka : Nat → Nat) (ws : va_W) (tys : List (ClassId × FieldType)) : PO → va_E → Prop
  | .inl (t, n, .inl f), E => ∃ cA, E = .inl (cA, n, .inl f) ∧ (cA, aty t) ∈ tys
  | .inl (t, n, .inr (.inl f)), E => ∃ cA, E = .inl (cA, n, .inr (.inl f)) ∧ (cA, aty t) ∈ tys
  | .inl (t, n, .inr (.inr (.inr (.inr f)))), E => ∃ cA f', E = .inl (cA, n, .inr (.inr (.inr (.inr f')))) ∧ (cA, aty t) ∈ tys ∧ ∀ j, j < n → ORel ws (f j) (f' j)
  | .inl _, _ => False
  | .inr (ci, fs), E => ∃ fs', E = .inr (ci, fs') ∧ SRel ka ws fs fs'
def HRel (ka : Nat → Nat) (ws : va_W) (tys : List (ClassId × FieldType)) (h : List PO) : Prop := ws.length = h.length ∧ ∀ (k : Nat) (o : PO), h[k]? = some o → ∃ a E, ws[k]? = some (a, E) ∧ CRel ka ws tys o E
def Ext (ws ws' : va_W) : Prop := ∀ (k a : Nat) (E : va_E), ws[k]? = some (a, E) → ∃ E', ws'[k]? = some (a, E')
def lvF (i : Nat) : Nat × Value → Bool := fun q => !(q.1 == i) && !(q.1 + 1 == i && q.2.category == 2)
def lvF2 (i : Nat) : Nat × Value → Bool := fun q => !(q.1 == i) && (!(q.1 == i + 1) && !(q.1 + 1 == i && q.2.category == 2))
def LRel (ka : Nat → Nat) (ws : va_W) (L : PL) (nL : Nat) (ls : Array Slot) : Prop := L.length = nL ∧ ∃ lv, lv_has ls nL lv ∧ ∀ (i : Nat) (v : Value), L[i]? = some (some v) → ∃ w, (i, w) ∈ lv ∧ VRel ka ws v w
section Rels
variable {ka : Nat → Nat} {ws ws' : va_W} {tys tys' : List (ClassId × FieldType)}
theorem Ext.rf : Ext ws ws := fun _ _ E h => ⟨E, h⟩
theorem Ext.trans {w2 : va_W} (h1 : Ext ws ws') (h2 : Ext ws' w2) : Ext ws w2 := fun k a E h => by
  obtain ⟨E1, h3⟩ := h1 k a E h
  exact h2 k a E1 h3
theorem Ext.app (x : va_W) : Ext ws (ws ++ x) := fun k a E h => ⟨E, by rw [List.getElem?_append_left (List.getElem?_eq_some_iff.mp h).1]; exact h⟩
theorem Ext.set {k a : Nat} {E : va_E} (h : ws[k]? = some (a, E)) (E' : va_E) : Ext ws (ws.set k (a, E')) := fun j b F hj => by
  rw [List.getElem?_set]
  by_cases hkj : k = j
  · subst hkj
    rw [h] at hj
    cases hj
    rw [if_pos rfl, if_pos (List.getElem?_eq_some_iff.mp h).1]
    exact ⟨E', rfl⟩
  · rw [if_neg hkj]
    exact ⟨F, hj⟩
theorem VRel.ext (hE : Ext ws ws') {v w : Value} (h : VRel ka ws v w) : VRel ka ws' v w := by
  cases v with
  | ref k =>
    obtain ⟨a, E, h1, h2⟩ := h
    obtain ⟨E', h3⟩ := hE k a E h1
    exact ⟨a, E', h3, h2⟩
  | retAddr n => exact h
  | int x => exact h
  | long x => exact h
  | null => exact h
  | float x => exact h
  | double x => exact h
theorem SRel.ext (hE : Ext ws ws') : ∀ {l m : List Value}, SRel ka ws l m → SRel ka ws' l m
  | [], [], _ => trivial
  | _ :: _, _ :: _, h => ⟨VRel.ext hE h.1, SRel.ext hE h.2⟩
  | [], _ :: _, h => h
  | _ :: _, [], h => h
theorem ORel.ext (hE : Ext ws ws') {x y : Option Nat} (h : ORel ws x y) : ORel ws' x y := by
  cases x with
  | none => cases y with
    | none => trivial
    | some b => exact h
  | some k => cases y with
    | none => exact h
    | some b =>
      obtain ⟨E, h1⟩ := h
      exact hE k b E h1
theorem CRel.ext (hE : Ext ws ws') (ht : ∀ q ∈ tys, q ∈ tys') {o : PO} {E : va_E} (h : CRel ka ws tys o E) : CRel ka ws' tys' o E := by
  match o, h with
  | .inl (t, n, .inl f), ⟨cA, h1, h2⟩ => exact ⟨cA, h1, ht _ h2⟩
  | .inl (t, n, .inr (.inl f)), ⟨cA, h1, h2⟩ => exact ⟨cA, h1, ht _ h2⟩
  | .inl (t, n, .inr (.inr (.inr (.inr f)))), ⟨cA, f', h1, h2, h3⟩ => exact ⟨cA, f', h1, ht _ h2, fun j hj => ORel.ext hE (h3 j hj)⟩
  | .inr (ci, fs), ⟨fs', h1, h2⟩ => exact ⟨fs', h1, SRel.ext hE h2⟩
theorem VRel.cat {v w : Value} (h : VRel ka ws v w) : w.category = v.category := by
  cases v with
  | ref k =>
    obtain ⟨a, E, h1, h2⟩ := h
    rw [h2]
    rfl
  | retAddr n => rw [show w = .ref (ka n) from h]; rfl
  | int x => rw [show w = .int x from h]
  | long x => rw [show w = .long x from h]
  | null => rw [show w = .null from h]
  | float x => exact h.elim
  | double x => exact h.elim
theorem SRel.cons {v : Value} {l m : List Value} (h : SRel ka ws (v :: l) m) : ∃ w r, m = w :: r ∧ VRel ka ws v w ∧ SRel ka ws l r := by
  cases m with
  | nil => exact h.elim
  | cons w r => exact ⟨w, r, rfl, h.1, h.2⟩
theorem SRel.nil {m : List Value} (h : SRel ka ws [] m) : m = [] := by
  cases m with
  | nil => rfl
  | cons w r => exact h.elim
theorem SRel.int {x : Int32} {l m : List Value} (h : SRel ka ws (.int x :: l) m) : ∃ r, m = .int x :: r ∧ SRel ka ws l r := by
  obtain ⟨w, r, h1, h2, h3⟩ := h.cons
  rw [show w = .int x from h2] at h1
  exact ⟨r, h1, h3⟩
theorem SRel.long {x : Int64} {l m : List Value} (h : SRel ka ws (.long x :: l) m) : ∃ r, m = .long x :: r ∧ SRel ka ws l r := by
  obtain ⟨w, r, h1, h2, h3⟩ := h.cons
  rw [show w = .long x from h2] at h1
  exact ⟨r, h1, h3⟩
theorem SRel.null {l m : List Value} (h : SRel ka ws (.null :: l) m) : ∃ r, m = .null :: r ∧ SRel ka ws l r := by
  obtain ⟨w, r, h1, h2, h3⟩ := h.cons
  rw [show w = .null from h2] at h1
  exact ⟨r, h1, h3⟩
theorem SRel.con {n : Nat} {l m : List Value} (h : SRel ka ws (.retAddr n :: l) m) : ∃ r, m = .ref (ka n) :: r ∧ SRel ka ws l r := by
  obtain ⟨w, r, h1, h2, h3⟩ := h.cons
  rw [show w = .ref (ka n) from h2] at h1
  exact ⟨r, h1, h3⟩
theorem SRel.ref {k : Nat} {l m : List Value} (h : SRel ka ws (.ref k :: l) m) : ∃ a E r, ws[k]? = some (a, E) ∧ m = .ref a :: r ∧ SRel ka ws l r := by
  obtain ⟨w, r, h1, h2, h3⟩ := h.cons
  obtain ⟨a, E, h4, h5⟩ := h2
  rw [h5] at h1
  exact ⟨a, E, r, h4, h1, h3⟩
theorem SRel.len : ∀ {l m : List Value}, SRel ka ws l m → m.length = l.length
  | [], [], _ => rfl
  | _ :: _, _ :: _, h => by rw [List.length_cons, List.length_cons, SRel.len h.2]
  | [], _ :: _, h => h.elim
  | _ :: _, [], h => h.elim
theorem SRel.words : ∀ {l m : List Value}, SRel ka ws l m → pwords m = pwords l
  | [], [], _ => rfl
  | v :: l, w :: m, h => by
    have h1 := SRel.words h.2
    unfold pwords at h1 ⊢
    rw [List.map_cons, List.map_cons, List.sum_cons, List.sum_cons, h1, h.1.cat]
  | [], _ :: _, h => h.elim
  | _ :: _, [], h => h.elim
theorem SRel.drop : ∀ (n : Nat) {l m : List Value}, SRel ka ws l m → SRel ka ws (l.drop n) (m.drop n)
  | 0, _, _, h => h
  | n + 1, [], [], h => h
  | n + 1, _ :: _, _ :: _, h => SRel.drop n h.2
  | n + 1, [], _ :: _, h => h.elim
  | n + 1, _ :: _, [], h => h.elim
theorem SRel.take : ∀ (n : Nat) {l m : List Value}, SRel ka ws l m → SRel ka ws (l.take n) (m.take n)
  | 0, _, _, _ => trivial
  | n + 1, [], [], h => h
  | n + 1, _ :: _, _ :: _, h => ⟨h.1, SRel.take n h.2⟩
  | n + 1, [], _ :: _, h => h.elim
  | n + 1, _ :: _, [], h => h.elim
theorem SRel.app : ∀ {l m l2 m2 : List Value}, SRel ka ws l m → SRel ka ws l2 m2 → SRel ka ws (l ++ l2) (m ++ m2)
  | [], [], _, _, _, h2 => h2
  | _ :: _, _ :: _, _, _, h, h2 => ⟨h.1, SRel.app h.2 h2⟩
  | [], _ :: _, _, _, h, _ => h.elim
  | _ :: _, [], _, _, h, _ => h.elim
theorem SRel.rev : ∀ {l m : List Value}, SRel ka ws l m → SRel ka ws l.reverse m.reverse
  | [], [], _ => trivial
  | v :: l, w :: m, h => by
    rw [List.reverse_cons, List.reverse_cons]
    exact SRel.app (SRel.rev h.2) ⟨h.1, trivial⟩
  | [], _ :: _, h => h.elim
  | _ :: _, [], h => h.elim
theorem SRel.at : ∀ {l m : List Value} (k : Nat) {v : Value}, SRel ka ws l m → l[k]? = some v → ∃ w, m[k]? = some w ∧ VRel ka ws v w
  | [], _, k, v, _, hk => by simp at hk
  | x :: l, [], _, _, h, _ => h.elim
  | x :: l, y :: m, 0, v, h, hk => by
    simp only [List.getElem?_cons_zero, Option.some.injEq] at hk
    subst hk
    exact ⟨y, by simp, h.1⟩
  | x :: l, y :: m, k + 1, v, h, hk => by
    simp only [List.getElem?_cons_succ] at hk ⊢
    exact SRel.at k h.2 hk
theorem SRel.setAt : ∀ {l m : List Value} (k : Nat) {v w : Value}, SRel ka ws l m → VRel ka ws v w → SRel ka ws (l.set k v) (m.set k w)
  | [], [], k, _, _, _, _ => by simp [SRel]
  | [], _ :: _, _, _, _, h, _ => h.elim
  | _ :: _, [], _, _, _, h, _ => h.elim
  | _ :: _, _ :: _, 0, _, _, h, hv => ⟨hv, h.2⟩
  | _ :: _, _ :: _, k + 1, _, _, h, hv => ⟨h.1, SRel.setAt k h.2 hv⟩
theorem HRel.get {h : List PO} {k : Nat} {o : PO} (H : HRel ka ws tys h) (hk : h[k]? = some o) {a : Nat} {E : va_E} (hw : ws[k]? = some (a, E)) : CRel ka ws tys o E := by
  obtain ⟨b, F, h1, h2⟩ := H.2 k o hk
  rw [hw] at h1
  cases h1
  exact h2
theorem HRel.put {h : List PO} {k a : Nat} {E E' : va_E} {o : PO} (H : HRel ka ws tys h) (hw : ws[k]? = some (a, E)) (ho : CRel ka ws tys o E') : HRel ka (ws.set k (a, E')) tys (h.set k o) := by
  have hE := Ext.set hw E'
  refine ⟨by rw [List.length_set, List.length_set]; exact H.1, fun j x hj => ?_⟩
  rw [List.getElem?_set] at hj ⊢
  by_cases hkj : k = j
  · subst hkj
    have hl : k < ws.length := (List.getElem?_eq_some_iff.mp hw).1
    rw [if_pos rfl, if_pos (by rw [← H.1]; exact hl)] at hj
    cases hj
    rw [if_pos rfl, if_pos hl]
    exact ⟨a, E', rfl, ho.ext hE (fun _ h => h)⟩
  · rw [if_neg hkj] at hj ⊢
    obtain ⟨b, F, h1, h2⟩ := H.2 j x hj
    exact ⟨b, F, h1, h2.ext hE (fun _ h => h)⟩
theorem HRel.push {h h2 : List PO} {w2 : va_W} {t2 : List (ClassId × FieldType)} (H : HRel ka ws tys h) (hl : w2.length = h2.length) (hn : ∀ (k : Nat) (o : PO), h2[k]? = some o → ∃ a E, w2[k]? = some (a, E) ∧ CRel ka (ws ++ w2) (tys ++ t2) o E) : HRel ka (ws ++ w2) (tys ++ t2) (h ++ h2) := by
  refine ⟨by rw [List.length_append, List.length_append, H.1, hl], fun j x hj => ?_⟩
  by_cases hjl : j < h.length
  · rw [List.getElem?_append_left hjl] at hj
    obtain ⟨b, F, h1, h2⟩ := H.2 j x hj
    exact ⟨b, F, by rw [List.getElem?_append_left (by rw [H.1]; exact hjl)]; exact h1, h2.ext (Ext.app _) (fun _ h => List.mem_append_left _ h)⟩
  · rw [List.getElem?_append_right (by omega)] at hj
    obtain ⟨a, E, h1, h2⟩ := hn _ x hj
    exact ⟨a, E, by rw [List.getElem?_append_right (by rw [H.1]; omega), H.1]; exact h1, h2⟩
theorem getD_some {L : PL} {i : Nat} {v : Value} (h : L.getD i none = some v) : L[i]? = some (some v) := by
  rw [List.getD_eq_getElem?_getD] at h
  cases hL : L[i]? with
  | none => rw [hL] at h; cases h
  | some x => rw [hL] at h; exact congrArg some h
theorem LRel.ext (hE : Ext ws ws') {L : PL} {nL : Nat} {ls : Array Slot} (h : LRel ka ws L nL ls) : LRel ka ws' L nL ls := by
  obtain ⟨h0, lv, h1, h2⟩ := h
  refine ⟨h0, lv, h1, fun i v hi => ?_⟩
  obtain ⟨w, h3, h4⟩ := h2 i v hi
  exact ⟨w, h3, h4.ext hE⟩
theorem LRel.at {L : PL} {nL i : Nat} {ls : Array Slot} {v : Value} (h : LRel ka ws L nL ls) (hi : L.getD i none = some v) : ∃ w, ls[i]? = some (.val w) ∧ VRel ka ws v w := by
  obtain ⟨-, lv, h1, h2⟩ := h
  obtain ⟨w, h3, h4⟩ := h2 i v (getD_some hi)
  exact ⟨w, h1.2.2 (i, w) h3, h4⟩
theorem pclr_len (L : PL) (i : Nat) : (pclr L i).length = L.length := by
  cases i with
  | zero => rfl
  | succ j =>
    simp only [pclr]
    split <;> simp
theorem pclr_at {L : PL} {i j : Nat} {v : Value} (h : (pclr L i)[j]? = some (some v)) : L[j]? = some (some v) ∧ (j + 1 = i → v.category ≠ 2) := by
  cases i with
  | zero => exact ⟨h, fun e => absurd e (Nat.succ_ne_zero j)⟩
  | succ k =>
    have key : ∀ x, L.getD k none = x → (∀ y, x ≠ some (.long y)) → (∀ y, x ≠ some (.double y)) → L[j]? = some (some v) → j + 1 = k + 1 → v.category ≠ 2 := by
      intro x hx n1 n2 hj e
      have e' : j = k := Nat.succ.inj e
      subst e'
      have hv : L.getD j none = some v := by rw [List.getD_eq_getElem?_getD, hj]; rfl
      rw [hv] at hx
      subst hx
      cases v with
      | long y => exact absurd rfl (n1 y)
      | double y => exact absurd rfl (n2 y)
      | _ => simp [Value.category]
    have cut : (L.set k none)[j]? = some (some v) → L[j]? = some (some v) ∧ (j + 1 = k + 1 → v.category ≠ 2) := by
      intro h
      rw [List.getElem?_set] at h
      by_cases e : k = j
      · subst e
        rw [if_pos rfl] at h
        split at h <;> cases h
      · rw [if_neg e] at h
        exact ⟨h, fun q => absurd (Nat.succ.inj q).symm e⟩
    simp only [pclr] at h
    split at h
    · exact cut h
    · exact cut h
    · next n1 n2 => exact ⟨h, key _ rfl (fun y => n1 y) (fun y => n2 y) h⟩
theorem LRel.st1c {L L' : PL} {nL i : Nat} {lv : List (Nat × Value)} {v w : Value} (h0 : L.length = nL) (h2 : ∀ (i : Nat) (v : Value), L[i]? = some (some v) → ∃ w, (i, w) ∈ lv ∧ VRel ka ws v w) (hs : pst1 L i v = some L') (hv : VRel ka ws v w) :
    i < nL ∧ ∀ ls' : Array Slot, lv_has ls' nL ((i, w) :: lv.filter (lvF i)) → LRel ka ws L' nL ls' := by
  unfold pst1 at hs
  cases hb : Nat.ble (i + 1) L.length with
  | false => rw [hb] at hs; cases hs
  | true =>
    rw [hb] at hs
    have hi : i < L.length := Nat.le_of_ble_eq_true hb
    cases Option.some.inj hs
    refine ⟨by rw [← h0]; exact hi, fun ls' hl => ⟨by rw [List.length_set, pclr_len]; exact h0, _, hl, fun j u hj => ?_⟩⟩
    rw [List.getElem?_set] at hj
    by_cases e : i = j
    · subst e
      rw [if_pos rfl, if_pos (by rw [pclr_len]; exact hi)] at hj
      cases hj
      exact ⟨w, List.mem_cons_self, hv⟩
    · rw [if_neg e] at hj
      obtain ⟨h3, h4⟩ := pclr_at hj
      obtain ⟨w', h5, h6⟩ := h2 j u h3
      refine ⟨w', List.mem_cons_of_mem _ (List.mem_filter.mpr ⟨h5, ?_⟩), h6⟩
      unfold lvF
      have e1 : (j == i) = false := by simp; omega
      by_cases e2 : j + 1 = i
      · have h7 : (w'.category == 2) = false := by rw [h6.cat]; simpa using h4 e2
        simp [e1, h7]
      · simp [e1, e2]
theorem LRel.st1 {L L' : PL} {nL i : Nat} {ls : Array Slot} {v w : Value} (h : LRel ka ws L nL ls) (hs : pst1 L i v = some L') (hv : VRel ka ws v w) :
    i < nL ∧ ∃ lv, lv_has ls nL lv ∧ ∀ ls' : Array Slot, lv_has ls' nL ((i, w) :: lv.filter (lvF i)) → LRel ka ws L' nL ls' := by
  obtain ⟨h0, lv, h1, h2⟩ := h
  obtain ⟨h3, h4⟩ := LRel.st1c h0 h2 hs hv
  exact ⟨h3, lv, h1, h4⟩
theorem LRel.st2 {L L' : PL} {nL i : Nat} {ls : Array Slot} {v w : Value} (h : LRel ka ws L nL ls) (hs : pst2 L i v = some L') (hv : VRel ka ws v w) :
    i + 1 < nL ∧ ∃ lv, lv_has ls nL lv ∧ ∀ ls' : Array Slot, lv_has ls' nL ((i, w) :: lv.filter (lvF2 i)) → LRel ka ws L' nL ls' := by
  obtain ⟨h0, lv, h1, h2⟩ := h
  unfold pst2 at hs
  cases hb : Nat.ble (i + 2) L.length with
  | false => rw [hb] at hs; cases hs
  | true =>
    rw [hb] at hs
    have hi : i + 1 < L.length := Nat.le_of_ble_eq_true hb
    cases Option.some.inj hs
    refine ⟨by rw [← h0]; exact hi, lv, h1, fun ls' hl => ⟨by rw [List.length_set, List.length_set, pclr_len]; exact h0, _, hl, fun j u hj => ?_⟩⟩
    rw [List.getElem?_set] at hj
    by_cases e0 : i + 1 = j
    · subst e0
      rw [if_pos rfl] at hj
      split at hj <;> cases hj
    · rw [if_neg e0, List.getElem?_set] at hj
      by_cases e : i = j
      · subst e
        rw [if_pos rfl, if_pos (by rw [pclr_len]; omega)] at hj
        cases hj
        exact ⟨w, List.mem_cons_self, hv⟩
      · rw [if_neg e] at hj
        obtain ⟨h3, h4⟩ := pclr_at hj
        obtain ⟨w', h5, h6⟩ := h2 j u h3
        refine ⟨w', List.mem_cons_of_mem _ (List.mem_filter.mpr ⟨h5, ?_⟩), h6⟩
        unfold lvF2
        have e1 : (j == i) = false := by simp; omega
        have e3 : (j == i + 1) = false := by simp; omega
        by_cases e2 : j + 1 = i
        · have h7 : (w'.category == 2) = false := by rw [h6.cat]; simpa using h4 e2
          simp [e1, e3, h7]
        · simp [e1, e3, e2]
end Rels
