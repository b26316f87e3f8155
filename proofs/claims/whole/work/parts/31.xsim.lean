/-! the class' play: feet, next visits -/
def xpl (nb : Int) (B : Int → Int → Int) (P : Int → Int) (j : Int) : Int := if j < nb ∧ bkv nb B P j = 0 then P j / 10 else -1
def xwi (nb : Int) (B : Int → Int → Int) (P : Int → Int) (j : Int) : Int := if j < nb ∧ bkv nb B P j = 0 then P j % 10 else -1
theorem bkn_up {B : Int → Int → Int} {P : Int → Int} {b : Int} {n : Nat} (h : bkn B P b n = 1) : ∀ k, bkn B P b (n + k) = 1
  | 0 => h
  | k + 1 => if_pos (Or.inl (bkn_up h k))
theorem bkn_ge {B : Int → Int → Int} {P : Int → Int} {b : Int} {n m : Nat} (h : bkn B P b n = 1) (hm : n ≤ m) : bkn B P b m = 1 := by
  obtain ⟨k, rfl⟩ := Nat.exists_eq_add_of_le hm
  exact bkn_up h k
theorem xwi_t {nb j : Int} {B : Int → Int → Int} {P : Int → Int} (h : j < nb) (h2 : bkv nb B P j = 0) : xwi nb B P j = P j % 10 ∧ xpl nb B P j = P j / 10 := ⟨if_pos ⟨h, h2⟩, if_pos ⟨h, h2⟩⟩
theorem xwi_f {nb j : Int} {B : Int → Int → Int} {P : Int → Int} (h : ¬ (j < nb ∧ bkv nb B P j = 0)) : xwi nb B P j = -1 ∧ xpl nb B P j = -1 := ⟨if_neg h, if_neg h⟩
theorem xwi_r {nw nb : Int} {W B : Int → Int → Int} {P : Int → Int} (h : PtOK nw nb W B P) (hn : 0 ≤ nw) {j : Int} (hj : 0 ≤ j) : -1 ≤ xwi nb B P j ∧ (xwi nb B P j < nw ∨ xwi nb B P j = -1) ∧ -1 ≤ xpl nb B P j ∧ xpl nb B P j < 6 ∧ (xwi nb B P j ≠ -1 → j < nb ∧ bkv nb B P j = 0 ∧ xwi nb B P j = P j % 10 ∧ xpl nb B P j = P j / 10) := by
  by_cases e : j < nb ∧ bkv nb B P j = 0
  · have h1 := xwi_t e.1 e.2
    have h2 := h.w hj e.1 e.2
    refine ⟨by omega, by omega, by omega, by omega, fun _ => ⟨e.1, e.2, h1.1, h1.2⟩⟩
  · have h1 := xwi_f e
    refine ⟨by omega, by omega, by omega, by omega, fun z => absurd h1.1 z⟩
theorem crz_sy (nb : Int) (W B : Int → Int → Int) (P : Int → Int) (a b : Int) : crz nb W B P a b = crz nb W B P b a := by
  unfold crz
  have e : (P a / 10 - P b / 10) * (W (P a % 10) 0 - W (P b % 10) 0) = (P b / 10 - P a / 10) * (W (P b % 10) 0 - W (P a % 10) 0) := by
    rw [← Int.neg_sub (P b / 10), ← Int.neg_sub (W (P b % 10) 0), Int.neg_mul_neg]
  rw [e]
  by_cases h : a ≠ b ∧ bkv nb B P a = 0 ∧ bkv nb B P b = 0 ∧ (P b / 10 - P a / 10) * (W (P b % 10) 0 - W (P a % 10) 0) < 0
  · rw [if_pos h, if_pos ⟨h.1.symm, h.2.2.1, h.2.1, h.2.2.2⟩]
  · rw [if_neg h, if_neg (fun z => h ⟨z.1.symm, z.2.2.1, z.2.1, z.2.2.2⟩)]
theorem crz_ii (nb : Int) (W B : Int → Int → Int) (P : Int → Int) (a : Int) : crz nb W B P a a = 0 := if_neg (fun z => z.1 rfl)
/-- minute t for a visit of the window w, 1000 for never -/
def itm (W : Int → Int → Int) (l : Int → Int) (w t : Int) : Int := if 0 < l w ∧ t < W w 3 then t else 1000
def nx0 (nb : Int) (W B : Int → Int → Int) (P l : Int → Int) (j : Int) : Int := if j < nb ∧ bkv nb B P j = 0 then itm W l (P j % 10) (B j 0 + 1 + clb nb W B P j) else 1000
def amn (nx : Int → Int) : Int := if nx 1 < nx 0 then (if nx 2 < nx 1 then 2 else 1) else (if nx 2 < nx 0 then 2 else 0)
theorem amn_r (nx : Int → Int) : 0 ≤ amn nx ∧ amn nx < 3 := by unfold amn; (repeat split) <;> omega
/-- next visits behind a child taken by b; S: what was so before -/
def nxu (nb : Int) (W B : Int → Int → Int) (P : Int → Int) (S : SV) (nx : Int → Int) (b : Int) : Int → Int := fun j =>
  if sL S (P b % 10) = 1 ∧ xwi nb B P j = P b % 10 then 1000 else if j = b then itm W (usz (sL S) (P b % 10) (sL S (P b % 10) - 1)) (P b % 10) (nx b + 2 * clb nb W B P b) else nx j
def crn (nb : Int) (W B : Int → Int → Int) (P : Int → Int) : Nat → SV → (Int → Int) → SV
  | 0, S, _ => S
  | m + 1, S, nx => if nx (amn nx) = 1000 then S else crn nb W B P m (vtk S (P (amn nx) % 10) (amn nx) (nx (amn nx))) (nxu nb W B P S nx (amn nx))
/-- what is known of next visits -/
def NOK (nw nb : Int) (W B : Int → Int → Int) (P : Int → Int) (S : SV) (nx : Int → Int) : Prop := ∀ j, 0 ≤ j → j < 3 → (0 ≤ nx j ∧ nx j ≤ 1000) ∧ (nx j ≠ 1000 → (j < nb ∧ bkv nb B P j = 0) ∧ nx j < 60 ∧ 0 < sL S (P j % 10))
theorem NOK.up {nw nb : Int} {W B : Int → Int → Int} {P : Int → Int} {S : SV} {nx : Int → Int} (hF : FrOK nw nb W B) (hmy : PtOK nw nb W B P) (hS : SOK nw nb S) (h : NOK nw nb W B P S nx) {b : Int} (hb : 0 ≤ b ∧ b < 3) (hx : nx b ≠ 1000) : NOK nw nb W B P (vtk S (P b % 10) b (nx b)) (nxu nb W B P S nx b) := by
  intro j h0 h1
  have hbb := h b hb.1 hb.2
  have hb2 := hbb.2 hx
  have hc := clb_r hF hmy hb.1 hb2.1.1 hb2.1.2
  have hpb := hmy.w hb.1 hb2.1.1 hb2.1.2
  have hw := hF.2.1 (P b % 10) (by omega) (by omega)
  have hj := h j h0 h1
  show (0 ≤ nxu nb W B P S nx b j ∧ nxu nb W B P S nx b j ≤ 1000) ∧ (nxu nb W B P S nx b j ≠ 1000 → (j < nb ∧ bkv nb B P j = 0) ∧ nxu nb W B P S nx b j < 60 ∧ 0 < usz (sL S) (P b % 10) (sL S (P b % 10) - 1) (P j % 10))
  unfold nxu
  split
  · exact ⟨by omega, fun z => absurd rfl z⟩
  · next e1 =>
    split
    · next e2 =>
      subst e2
      rw [usz_s]
      unfold itm
      rw [usz_s]
      split
      · next e3 => exact ⟨by omega, fun _ => ⟨hb2.1, by omega, e3.1⟩⟩
      · exact ⟨by omega, fun z => absurd rfl z⟩
    · next e2 =>
      refine ⟨hj.1, fun z => ?_⟩
      have hj2 := hj.2 z
      refine ⟨hj2.1, hj2.2.1, ?_⟩
      by_cases e4 : P j % 10 = P b % 10
      · rw [e4, usz_s]
        have e5 := xwi_t hj2.1.1 hj2.1.2
        have := hj2.2.2
        rw [e4] at this
        by_cases e6 : sL S (P b % 10) = 1
        · exact absurd ⟨e6, by rw [e5.1, e4]⟩ e1
        · omega
      · rw [usz_n e4]; exact hj2.2.2
theorem NOK.in {nw nb : Int} {W B : Int → Int → Int} {P : Int → Int} {S : SV} {nx : Int → Int} (hF : FrOK nw nb W B) (hmy : PtOK nw nb W B P) (hx : ∀ j, 0 ≤ j → j < 3 → nx j = nx0 nb W B P (sL S) j) : NOK nw nb W B P S nx := by
  intro j h0 h1
  rw [hx j h0 h1]
  unfold nx0
  split
  · next e =>
    have hc := clb_r hF hmy h0 e.1 e.2
    have hpb := hmy.w h0 e.1 e.2
    have hw := hF.2.1 (P j % 10) (by omega) (by omega)
    have hb := hF.2.2 j h0 e.1
    unfold itm
    split
    · next e3 => exact ⟨by omega, fun _ => ⟨e, by omega, e3.1⟩⟩
    · exact ⟨by omega, fun z => absurd rfl z⟩
  · exact ⟨by omega, fun z => absurd rfl z⟩
