/-! lists of puts -/
def fl (p : Int → Bool) : Nat → List Int
  | 0 => []
  | n + 1 => bif p n then fl p n ++ [(n : Int)] else fl p n
theorem fl_t {p : Int → Bool} {n : Nat} (h : p n = true) : fl p (n + 1) = fl p n ++ [(n : Int)] := by
  show (bif p n then _ else _) = _
  rw [h]; rfl
theorem fl_f {p : Int → Bool} {n : Nat} (h : p n = false) : fl p (n + 1) = fl p n := by
  show (bif p n then _ else _) = _
  rw [h]; rfl
theorem fl_mono {p p' : Int → Bool} (h : ∀ i, p i = true → p' i = true) : ∀ n, (fl p n).length ≤ (fl p' n).length
  | 0 => Nat.le_refl _
  | n + 1 => by
    have ih := fl_mono h n
    cases hp : p n with
    | true => rw [fl_t hp, fl_t (h _ hp), List.length_append, List.length_append]; simp; exact ih
    | false =>
      rw [fl_f hp]
      cases hp' : p' n with
      | true => rw [fl_t hp', List.length_append]; omega
      | false => rw [fl_f hp']; exact ih
theorem fl_len (p : Int → Bool) : ∀ (n m : Nat), n ≤ m → (fl p n).length ≤ (fl p m).length := by
  intro n m h
  obtain ⟨k, rfl⟩ := Nat.exists_eq_add_of_le h
  clear h
  induction k with
  | zero => exact Nat.le_refl _
  | succ k ih =>
    cases hp : p (n + k : Nat) with
    | true => rw [← Nat.add_assoc, fl_t hp, List.length_append]; omega
    | false => rw [← Nat.add_assoc, fl_f hp]; exact ih
theorem fl_gap {p : Int → Bool} {n : Nat} : ∀ (m : Nat), (∀ i : Nat, n ≤ i → i < n + m → p i = false) → fl p (n + m) = fl p n
  | 0, _ => rfl
  | m + 1, h => by
    rw [← Nat.add_assoc, fl_f (h (n + m) (by omega) (by omega))]
    exact fl_gap m (fun i h1 h2 => h i h1 (by omega))
theorem fl_mem {p : Int → Bool} {x : Int} : ∀ (n : Nat), x ∈ fl p n ↔ (0 ≤ x ∧ x < n) ∧ p x = true
  | 0 => by
    constructor
    · intro h; cases h
    · intro h; omega
  | n + 1 => by
    have ih := fl_mem (p := p) (x := x) n
    cases hp : p n with
    | true =>
      rw [fl_t hp, List.mem_append, ih, List.mem_singleton]
      constructor
      · rintro (⟨h1, h2⟩ | rfl)
        · exact ⟨by omega, h2⟩
        · exact ⟨by omega, hp⟩
      · rintro ⟨h1, h2⟩
        by_cases e : x = n
        · exact Or.inr e
        · exact Or.inl ⟨by omega, h2⟩
    | false =>
      rw [fl_f hp, ih]
      constructor
      · rintro ⟨h1, h2⟩; exact ⟨by omega, h2⟩
      · rintro ⟨h1, h2⟩
        by_cases e : x = n
        · subst e; rw [hp] at h2; cases h2
        · exact ⟨by omega, h2⟩
def lat (l : List Int) (k : Int) : Int := l.getD k.toNat 0
theorem lat_q (l : List Int) (k : Int) : lat l k = l[k.toNat]?.getD 0 := List.getD_eq_getElem?_getD
theorem lat_l {l : List Int} {v k : Int} (h : 0 ≤ k ∧ k < l.length) : lat (l ++ [v]) k = lat l k := by
  rw [lat_q, lat_q, List.getElem?_append_left (by omega)]
theorem lat_e {l : List Int} {v : Int} : lat (l ++ [v]) l.length = v := by
  rw [lat_q, Int.toNat_natCast, List.getElem?_append_right (Nat.le_refl _), Nat.sub_self]
  rfl
theorem lat_mem {l : List Int} {k : Int} (h : 0 ≤ k ∧ k < l.length) : lat l k ∈ l := by
  rw [lat_q, List.getElem?_eq_getElem (by omega)]
  exact List.getElem_mem _
theorem mem_lat {l : List Int} {x : Int} (h : x ∈ l) : ∃ k : Int, (0 ≤ k ∧ k < l.length) ∧ lat l k = x := by
  obtain ⟨i, hi, rfl⟩ := List.mem_iff_getElem.mp h
  refine ⟨(i : Int), by omega, ?_⟩
  rw [lat_q, Int.toNat_natCast, List.getElem?_eq_getElem hi]
  rfl
/-- the puts that a brigade may, rising, standing back the last -/
def mb (nw : Int) (W B : Int → Int → Int) (b p : Int) : Bool := decide (may nw W B b p)
def pls (nw : Int) (W B : Int → Int → Int) (b : Int) : List Int := fl (mb nw W B b) 100
theorem mb_t {nw : Int} {W B : Int → Int → Int} {b p : Int} : mb nw W B b p = true ↔ may nw W B b p := decide_eq_true_iff
theorem mb_f {nw : Int} {W B : Int → Int → Int} {b p : Int} : mb nw W B b p = false ↔ ¬ may nw W B b p := decide_eq_false_iff_not
theorem pls_eq (nw : Int) (W B : Int → Int → Int) (b : Int) : pls nw W B b = fl (mb nw W B b) 99 ++ [99] := fl_t (mb_t.mpr (Or.inl rfl))
theorem pls_24 {nw : Int} {W B : Int → Int → Int} {b : Int} (hn : nw ≤ 4) {n : Nat} (h : n ≤ 99) : (fl (mb nw W B b) n).length ≤ 24 := by
  refine Nat.le_trans (fl_len _ n 99 h) (Nat.le_trans (fl_mono (p' := fun p => decide (p = 99 ∨ (p / 10 < 6 ∧ p % 10 < 4))) ?_ 99) (by decide +kernel))
  intro i hi
  have := mb_t.mp hi
  apply decide_eq_true
  rcases this with h | h
  · exact Or.inl h
  · exact Or.inr ⟨h.2.1, by omega⟩
theorem pls_25 {nw : Int} {W B : Int → Int → Int} {b : Int} (hn : nw ≤ 4) : 1 ≤ (pls nw W B b).length ∧ (pls nw W B b).length ≤ 25 := by
  rw [pls_eq, List.length_append]
  have := pls_24 (W := W) (B := B) (b := b) hn (n := 99) (Nat.le_refl _)
  simp
  exact this
theorem pls_mem {nw : Int} {W B : Int → Int → Int} {b x : Int} : x ∈ pls nw W B b ↔ may nw W B b x := by
  unfold pls
  rw [fl_mem, mb_t]
  constructor
  · exact fun h => h.2
  · intro h
    refine ⟨?_, h⟩
    rcases h with h | h <;> omega
/-- how an array of 25 for each brigade holds a list -/
def PB (f : Int → Int) (o : Int) (l : List Int) : Prop := ∀ k : Int, 0 ≤ k → k < l.length → f (25 * o + k) = lat l k
theorem PB_app {f : Int → Int} {o v : Int} {l : List Int} (h : PB f o l) : PB (usz f (25 * o + l.length) v) o (l ++ [v]) := by
  intro k h0 h1
  rw [List.length_append, List.length_singleton] at h1
  by_cases e : k = l.length
  · rw [e, usz_s, lat_e]
  · rw [usz_n (by omega), lat_l (by omega)]
    exact h k h0 (by omega)
theorem PB_out {f : Int → Int} {o j v : Int} {l : List Int} (h : PB f o l) (hl : l.length ≤ 25) (hj : j < 25 * o ∨ 25 * o + 25 ≤ j) : PB (usz f j v) o l := by
  intro k h0 h1
  rw [usz_n (by omega)]
  exact h k h0 h1
def LPb (nw : Int) (W B : Int → Int → Int) (f : Int → Int) (b : Int) (l : List Int) : Prop := (∀ o, 0 ≤ o → o < b → PB f o (pls nw W B o)) ∧ PB f b l
theorem LPb_app {nw : Int} {W B : Int → Int → Int} {f : Int → Int} {b v : Int} {l : List Int} (hn : nw ≤ 4) (h : LPb nw W B f b l) : LPb nw W B (usz f (25 * b + l.length) v) b (l ++ [v]) :=
  ⟨fun o h0 h1 => PB_out (h.1 o h0 h1) (pls_25 hn).2 (Or.inr (by omega)), PB_app h.2⟩
/-- the puts of all brigades, as the reference holds them -/
def PMx (nw nb : Int) (W B : Int → Int → Int) (f g : Int → Int) : Prop := ∀ b, 0 ≤ b → b < nb → g b = (pls nw W B b).length ∧ PB f b (pls nw W B b)
