/-! rests, and for which pay for standing back a row is one -/
section Rests
variable {nw nb : Int} {W B : Int → Int → Int}
/-- the row next to i where brigade b has its k-th put -/
def nbr (nw nb : Int) (W B : Int → Int → Int) (i b k : Int) : Int := n3 (mny nw nb W B) i b k
def wkn (nw nb : Int) (W B : Int → Int → Int) (law : Int → Int) (i b : Int) : Nat → Int
  | 0 => -1000000
  | k + 1 => if rbk nw nb W B (nbr nw nb W B i b k) b = 1 then wkn nw nb W B law i b k else max (wkn nw nb W B law i b k) (rgn nw nb W B law (nbr nw nb W B i b k) b)
def wrk (nw nb : Int) (W B : Int → Int → Int) (law : Int → Int) (i b : Int) : Int := wkn nw nb W B law i b (mny nw nb W B b).toNat
def pyn (nw nb : Int) (W B : Int → Int → Int) (law : Int → Int) (i : Int) : Nat → Option (Int × Int)
  | 0 => some (0, 99)
  | b + 1 => match pyn nw nb W B law i b with
    | none => none
    | some (l, u) => if rbk nw nb W B i b = 1 then some (max l (wrk nw nb W B law i b), u) else if rgn nw nb W B law i b < wrk nw nb W B law i b then none else some (l, min u (rgn nw nb W B law i b))
def rkn (nw nb : Int) (W B : Int → Int → Int) (law : Int → Int) (i b : Int) : Nat → Bool
  | 0 => true
  | k + 1 => rkn nw nb W B law i b k && decide (rgn nw nb W B law (nbr nw nb W B i b k) b ≤ rgn nw nb W B law i b)
def rsn (nw nb : Int) (W B : Int → Int → Int) (law : Int → Int) (i : Int) : Nat → Bool
  | 0 => true
  | b + 1 => rsn nw nb W B law i b && rkn nw nb W B law i b (mny nw nb W B b).toNat
/-- 1: the row is a rest -/
def rsf (nw nb : Int) (W B : Int → Int → Int) (law : Int → Int) (i : Int) : Int := if rsn nw nb W B law i nb.toNat = true then 1 else 0
theorem rkn_iff {law : Int → Int} {i b : Int} : ∀ n : Nat, rkn nw nb W B law i b n = true ↔ ∀ k : Int, 0 ≤ k → k < n → rgn nw nb W B law (nbr nw nb W B i b k) b ≤ rgn nw nb W B law i b
  | 0 => ⟨fun _ k h0 h1 => absurd h1 (by omega), fun _ => rfl⟩
  | n + 1 => by
    rw [rkn, Bool.and_eq_true, rkn_iff n, decide_eq_true_iff]
    constructor
    · rintro ⟨h1, h2⟩ k k0 k1
      by_cases e : k = (n : Int)
      · subst e; exact h2
      · exact h1 k k0 (by omega)
    · intro h
      exact ⟨fun k k0 k1 => h k k0 (by omega), h n (by omega) (by omega)⟩
theorem wkn_r (hF : FrOK nw nb W B) {law : Int → Int} (hL : LwOK law) {i b : Int} (hb : 0 ≤ b ∧ b < nb) : ∀ n : Nat, -1000000 ≤ wkn nw nb W B law i b n ∧ wkn nw nb W B law i b n ≤ 4000
  | 0 => ⟨by show (-1000000 : Int) ≤ -1000000; omega, by show (-1000000 : Int) ≤ 4000; omega⟩
  | n + 1 => by
    have h1 := wkn_r hF hL (i := i) hb n
    have h2 := rgn_r hF hL (nbr nw nb W B i b n) hb
    rw [wkn]
    split
    · exact h1
    · omega
theorem wkn_le {law : Int → Int} {i b v : Int} (hv : -1000000 ≤ v) : ∀ n : Nat, wkn nw nb W B law i b n ≤ v ↔ ∀ k : Int, 0 ≤ k → k < n → rbk nw nb W B (nbr nw nb W B i b k) b = 0 → rgn nw nb W B law (nbr nw nb W B i b k) b ≤ v
  | 0 => ⟨fun _ k h0 h1 => absurd h1 (by omega), fun _ => hv⟩
  | n + 1 => by
    have ih := wkn_le (law := law) (i := i) (b := b) hv n
    have hr := rbk_r (nw := nw) (nb := nb) (W := W) (B := B) (nbr nw nb W B i b n) b
    rw [wkn]
    constructor
    · intro h k k0 k1 hk
      by_cases e : k = (n : Int)
      · subst e
        rw [if_neg (by omega)] at h
        omega
      · refine ih.mp ?_ k k0 (by omega) hk
        split at h <;> omega
    · intro h
      have h3 := ih.mpr (fun k k0 k1 hk => h k k0 (by omega) hk)
      split
      · exact h3
      · have := h n (by omega) (by omega) (by omega)
        omega
theorem rgn_bk {law : Int → Int} {i b : Int} (h : rbk nw nb W B i b = 1) : rgn nw nb W B law i b = law 1 := if_pos h
/-- the last put of each is standing back -/
theorem nbr_last (hF : FrOK nw nb W B) {i b : Int} (hi : 0 ≤ i ∧ i < t3 (mny nw nb W B)) (hb : 0 ≤ b ∧ b < nb) : rbk nw nb W B (nbr nw nb W B i b (mny nw nb W B b - 1)) b = 1 := by
  have hn := hF.1
  have hB := mny_b (nw := nw) (nb := nb) (W := W) (B := B) hn.2.1
  have hm := hB b (by omega) (by omega)
  have hx := n3_x hB hi (b := b) (k := mny nw nb W B b - 1) (c := b) (by omega) (by omega) (by omega)
  have e : PI nw nb W B (nbr nw nb W B i b (mny nw nb W B b - 1)) b = 99 := by
    unfold PI nbr
    rw [hx.2.1, if_pos rfl, plx_t hb.2, mny_t hb.2, pls_eq, List.length_append, List.length_singleton, show (((fl (mb nw W B b) 99).length + 1 : Nat) : Int) - 1 = ((fl (mb nw W B b) 99).length : Int) by omega, lat_e]
  unfold rbk
  exact bkn_99 e _
theorem rst_b (hF : FrOK nw nb W B) {law : Int → Int} (hL : LwOK law) {i b : Int} (hi : 0 ≤ i ∧ i < t3 (mny nw nb W B)) (hb : 0 ≤ b ∧ b < nb) : rkn nw nb W B law i b (mny nw nb W B b).toNat = true ↔ (if rbk nw nb W B i b = 1 then wrk nw nb W B law i b ≤ law 1 else wrk nw nb W B law i b ≤ rgn nw nb W B law i b ∧ law 1 ≤ rgn nw nb W B law i b) := by
  have hn := hF.1
  have hB := mny_b (nw := nw) (nb := nb) (W := W) (B := B) hn.2.1
  have hm := hB b (by omega) (by omega)
  have hg := rgn_r hF hL i hb
  have hLL := hL
  unfold LwOK at hLL
  rw [rkn_iff]
  have hl := nbr_last hF hi hb
  by_cases hbk : rbk nw nb W B i b = 1
  · rw [if_pos hbk, rgn_bk hbk]
    unfold wrk
    rw [wkn_le (by omega)]
    constructor
    · intro h k k0 k1 _
      exact h k k0 k1
    · intro h k k0 k1
      have hr := rbk_r (nw := nw) (nb := nb) (W := W) (B := B) (nbr nw nb W B i b k) b
      by_cases e : rbk nw nb W B (nbr nw nb W B i b k) b = 1
      · rw [rgn_bk e]; exact Int.le_refl _
      · exact h k k0 k1 (by omega)
  · rw [if_neg hbk]
    unfold wrk
    rw [wkn_le (by omega)]
    constructor
    · intro h
      refine ⟨fun k k0 k1 _ => h k k0 k1, ?_⟩
      have := h (mny nw nb W B b - 1) (by omega) (by omega)
      rw [rgn_bk hl] at this
      exact this
    · rintro ⟨h1, h2⟩ k k0 k1
      have hr := rbk_r (nw := nw) (nb := nb) (W := W) (B := B) (nbr nw nb W B i b k) b
      by_cases e : rbk nw nb W B (nbr nw nb W B i b k) b = 1
      · rw [rgn_bk e]; exact h2
      · exact h1 k k0 k1 (by omega)
theorem pyn_r (hF : FrOK nw nb W B) {law : Int → Int} (hL : LwOK law) {i : Int} : ∀ (n : Nat), (n : Int) ≤ nb → ∀ l u, pyn nw nb W B law i n = some (l, u) → (0 ≤ l ∧ l ≤ 4000) ∧ (-1000 ≤ u ∧ u ≤ 99)
  | 0, _, l, u, h => by cases h; omega
  | n + 1, hn, l, u, h => by
    have h2 := wkn_r hF hL (i := i) (b := n) (by omega) (mny nw nb W B n).toNat
    have h3 := rgn_r hF hL i (b := n) (by omega)
    rw [pyn] at h
    cases hp : pyn nw nb W B law i n with
    | none => rw [hp] at h; cases h
    | some lu =>
      obtain ⟨l1, u1⟩ := lu
      have ih := pyn_r hF hL n (by omega) l1 u1 hp
      rw [hp] at h
      dsimp only at h
      split at h
      · cases h; unfold wrk; omega
      · split at h
        · cases h
        · cases h; omega
theorem rsn_py (hF : FrOK nw nb W B) {law : Int → Int} (hL : LwOK law) {i : Int} (hi : 0 ≤ i ∧ i < t3 (mny nw nb W B)) : ∀ (n : Nat), (n : Int) ≤ nb → (rsn nw nb W B law i n = true ↔ ∃ l u, pyn nw nb W B law i n = some (l, u) ∧ l ≤ law 1 ∧ law 1 ≤ u)
  | 0, _ => by
    have hLL := hL
    unfold LwOK at hLL
    exact ⟨fun _ => ⟨0, 99, rfl, by omega, by omega⟩, fun _ => rfl⟩
  | n + 1, hn => by
    have ih := rsn_py hF hL hi n (by omega)
    have hb := rst_b hF hL hi (b := n) (by omega)
    rw [rsn, Bool.and_eq_true, ih, hb, pyn]
    cases hp : pyn nw nb W B law i n with
    | none => exact ⟨fun h => (by obtain ⟨⟨l, u, h1, _⟩, _⟩ := h; cases h1), fun h => (by obtain ⟨l, u, h1, _⟩ := h; cases h1)⟩
    | some lu =>
      obtain ⟨l1, u1⟩ := lu
      dsimp only
      by_cases hbk : rbk nw nb W B i n = 1
      · rw [if_pos hbk, if_pos hbk]
        constructor
        · rintro ⟨⟨l, u, h1, h2, h3⟩, h4⟩
          cases h1
          exact ⟨_, _, rfl, by omega, h3⟩
        · rintro ⟨l, u, h1, h2, h3⟩
          cases h1
          exact ⟨⟨_, _, rfl, by omega, h3⟩, by omega⟩
      · rw [if_neg hbk, if_neg hbk]
        by_cases hlt : rgn nw nb W B law i n < wrk nw nb W B law i n
        · rw [if_pos hlt]
          exact ⟨fun h => absurd h.2.1 (by omega), fun h => (by obtain ⟨l, u, h1, _⟩ := h; cases h1)⟩
        · rw [if_neg hlt]
          constructor
          · rintro ⟨⟨l, u, h1, h2, h3⟩, h4⟩
            cases h1
            exact ⟨_, _, rfl, h2, by omega⟩
          · rintro ⟨l, u, h1, h2, h3⟩
            cases h1
            exact ⟨⟨_, _, rfl, h2, by omega⟩, by omega⟩
/-- the least pay for standing back by which a row is a rest; -1: there is none -/
def pyv (nw nb : Int) (W B : Int → Int → Int) (law : Int → Int) (i : Int) : Int := match pyn nw nb W B law i nb.toNat with
  | none => -1
  | some (l, u) => if l ≤ u then l else -1
/-- who crosses -/
def xcn (nw nb : Int) (W B : Int → Int → Int) (i : Int) : Nat → Int
  | 0 => 0
  | b + 1 => if 0 < shk nb W B (PI nw nb W B i) b then orz (xcn nw nb W B i b) b else xcn nw nb W B i b
theorem xcn_r {i : Int} : ∀ n : Nat, 0 ≤ xcn nw nb W B i n ∧ xcn nw nb W B i n < 2 ^ n
  | 0 => ⟨Int.le_refl _, by show (0 : Int) < 2 ^ 0; decide⟩
  | n + 1 => by
    have ih := xcn_r (i := i) n
    have h2 : (2 : Int) ^ (n + 1) = 2 ^ n * 2 := Int.pow_succ ..
    have h3 : (0 : Int) < 2 ^ n := Int.pow_pos (by decide)
    rw [xcn]
    split
    · unfold orz
      rw [Int.toNat_natCast, Int.ediv_eq_zero_of_lt ih.1 ih.2, if_neg (by decide)]
      omega
    · omega
/-- the most that a rest saves, the least; -1: there is no rest -/
def msr (r sv : Int → Int) : Nat → Int
  | 0 => -1
  | n + 1 => if r n = 1 ∧ msr r sv n < sv n then sv n else msr r sv n
def lsr (r sv : Int → Int) : Nat → Int
  | 0 => -1
  | n + 1 => if r n = 1 ∧ (lsr r sv n = -1 ∨ sv n < lsr r sv n) then sv n else lsr r sv n
theorem msr_r {r sv : Int → Int} (hs : ∀ i, 0 ≤ sv i ∧ sv i ≤ 36) : ∀ n, -1 ≤ msr r sv n ∧ msr r sv n ≤ 36
  | 0 => ⟨Int.le_refl _, by show (-1 : Int) ≤ 36; decide⟩
  | n + 1 => by
    have := msr_r (r := r) hs n
    have := hs n
    rw [msr]
    split <;> omega
theorem lsr_r {r sv : Int → Int} (hs : ∀ i, 0 ≤ sv i ∧ sv i ≤ 36) : ∀ n, -1 ≤ lsr r sv n ∧ lsr r sv n ≤ 36
  | 0 => ⟨Int.le_refl _, by show (-1 : Int) ≤ 36; decide⟩
  | n + 1 => by
    have := lsr_r (r := r) hs n
    have := hs n
    rw [lsr]
    split <;> omega
theorem msr_c {r r' sv : Int → Int} {T : Int} (h : ∀ k, 0 ≤ k → k < T → r k = r' k) : ∀ n : Nat, (n : Int) ≤ T → msr r sv n = msr r' sv n
  | 0, _ => rfl
  | n + 1, hn => by rw [msr, msr, h n (by omega) (by omega), msr_c h n (by omega)]
theorem lsr_c {r r' sv : Int → Int} {T : Int} (h : ∀ k, 0 ≤ k → k < T → r k = r' k) : ∀ n : Nat, (n : Int) ≤ T → lsr r sv n = lsr r' sv n
  | 0, _ => rfl
  | n + 1, hn => by rw [lsr, lsr, h n (by omega) (by omega), lsr_c h n (by omega)]
/-- the least bribe of so many rows that save as much as top -/
def bbn (sv py : Int → Int) (top : Int) : Nat → Int
  | 0 => -1
  | n + 1 => if sv n = top ∧ py n ≠ -1 ∧ (bbn sv py top n = -1 ∨ py n < bbn sv py top n) then py n else bbn sv py top n
theorem rsf_r (law : Int → Int) (i : Int) : 0 ≤ rsf nw nb W B law i ∧ rsf nw nb W B law i ≤ 1 := by unfold rsf; split <;> omega
theorem pyv_r (hF : FrOK nw nb W B) {law : Int → Int} (hL : LwOK law) (i : Int) : -1 ≤ pyv nw nb W B law i ∧ pyv nw nb W B law i ≤ 99 := by
  have hn := hF.1
  unfold pyv
  cases hp : pyn nw nb W B law i nb.toNat with
  | none => exact ⟨Int.le_refl _, by show (-1 : Int) ≤ 99; decide⟩
  | some lu =>
    obtain ⟨l, u⟩ := lu
    have := pyn_r hF hL nb.toNat (by omega) l u hp
    dsimp only
    split <;> omega
theorem bbn_r {sv py : Int → Int} {top : Int} (h : ∀ i, -1 ≤ py i ∧ py i ≤ 99) : ∀ n, -1 ≤ bbn sv py top n ∧ bbn sv py top n ≤ 99
  | 0 => ⟨Int.le_refl _, by show (-1 : Int) ≤ 99; decide⟩
  | n + 1 => by
    have := bbn_r (sv := sv) (top := top) h n
    have := h n
    rw [bbn]
    split <;> omega
/-- of the ways of sharing the first by which most are saved: which, how many -/
def lwn (v : Int → Int) : Nat → Int × Int
  | 0 => (-1, -1)
  | n + 1 => if (lwn v n).2 < v n then ((n : Int), v n) else lwn v n
end Rests
