/-! visits, minute by minute: left, saved, by window and brigade, first by, taken; when, by whom, from where -/
abbrev SV : Type := (Int → Int) × (Int → Int) × (Int → Int) × (Int → Int) × Int × (Int → Int) × (Int → Int) × (Int → Int)
def sL (S : SV) : Int → Int := S.1
def sS (S : SV) : Int → Int := S.2.1
def sY (S : SV) : Int → Int := S.2.2.1
def sF (S : SV) : Int → Int := S.2.2.2.1
def sT (S : SV) : Int := S.2.2.2.2.1
def sA (S : SV) : Int → Int := S.2.2.2.2.2.1
def sB (S : SV) : Int → Int := S.2.2.2.2.2.2.1
def sC (S : SV) : Int → Int := S.2.2.2.2.2.2.2
def vfi (f : Int → Int) (w b : Int) : Int → Int := if f w = -1 then usz f w b else f
/-- brigade b takes a child of the window w at the minute t -/
def vtk (S : SV) (w b t : Int) : SV := (usz (sL S) w (sL S w - 1), usz (sS S) b (sS S b + 1), usz (sY S) (3 * w + b) (sY S (3 * w + b) + 1), vfi (sF S) w b, sT S + 1, usz (sA S) (sT S) t, usz (sB S) (sT S) b, usz (sC S) (sT S) w)
abbrev vis (W B : Int → Int → Int) (P c : Int → Int) (S : SV) (t b : Int) : Prop := 0 < t - B b 0 - 1 ∧ (t - B b 0 - 1) % c b = 0 ∧ (t - B b 0 - 1) / c b % 2 ≠ 0 ∧ t < W (P b % 10) 3 ∧ sL S (P b % 10) ≠ 0
def vst (W B : Int → Int → Int) (P c : Int → Int) (S : SV) (t b : Int) : SV := if vis W B P c S t b then vtk S (P b % 10) b t else S
def vrw (nb : Int) (W B : Int → Int → Int) (P : Int → Int) (t : Int) : Nat → Nat → SV → SV
  | 0, _, S => S
  | m + 1, n, S => vrw nb W B P t m (n + 1) (if bkv nb B P n = 1 then S else vst W B P (clb nb W B P) S t n)
def val (nb : Int) (W B : Int → Int → Int) (P : Int → Int) : Nat → Int → SV → SV
  | 0, _, S => S
  | m + 1, t, S => val nb W B P m (t + 1) (vrw nb W B P t nb.toNat 0 S)
def lsm (nw : Int) (l : Int → Int) : Int := (if 0 < nw then l 0 else 0) + (if 1 < nw then l 1 else 0) + (if 2 < nw then l 2 else 0) + (if 3 < nw then l 3 else 0)
def SOK (nw nb : Int) (S : SV) : Prop := (∀ w, 0 ≤ w → w < nw → 0 ≤ sL S w ∧ sL S w ≤ 9 ∧ -1 ≤ sF S w ∧ sF S w ≤ 2) ∧ (0 ≤ sT S ∧ sT S + lsm nw (sL S) ≤ 36) ∧ (∀ b, 0 ≤ b → b < nb → 0 ≤ sS S b ∧ sS S b ≤ sT S) ∧ (∀ k, 0 ≤ k → k < 12 → 0 ≤ sY S k ∧ sY S k ≤ sT S)
theorem lsm_up {nw w : Int} {l : Int → Int} (hw : 0 ≤ w ∧ w < nw) (hn : nw ≤ 4) (v : Int) : lsm nw (usz l w v) = lsm nw l - l w + v := by
  unfold lsm
  rcases (show w = 0 ∨ w = 1 ∨ w = 2 ∨ w = 3 by omega) with rfl | rfl | rfl | rfl
  · rw [if_pos hw.2, if_pos hw.2, usz_s, usz_n (by omega), usz_n (by omega), usz_n (by omega)]; omega
  · rw [if_pos hw.2, if_pos hw.2, usz_s, usz_n (by omega), usz_n (by omega), usz_n (by omega)]; omega
  · rw [if_pos hw.2, if_pos hw.2, usz_s, usz_n (by omega), usz_n (by omega), usz_n (by omega)]; omega
  · rw [if_pos hw.2, if_pos hw.2, usz_s, usz_n (by omega), usz_n (by omega), usz_n (by omega)]; omega
theorem lsm_ge {nw w : Int} {l : Int → Int} (hw : 0 ≤ w ∧ w < nw) (hn : nw ≤ 4) (h : ∀ w, 0 ≤ w → w < nw → 0 ≤ l w) : l w ≤ lsm nw l := by
  have e0 : 0 ≤ (if 0 < nw then l 0 else 0) := by split; exact h 0 (by omega) (by omega); omega
  have e1 : 0 ≤ (if 1 < nw then l 1 else 0) := by split; exact h 1 (by omega) (by omega); omega
  have e2 : 0 ≤ (if 2 < nw then l 2 else 0) := by split; exact h 2 (by omega) (by omega); omega
  have e3 : 0 ≤ (if 3 < nw then l 3 else 0) := by split; exact h 3 (by omega) (by omega); omega
  unfold lsm
  rcases (show w = 0 ∨ w = 1 ∨ w = 2 ∨ w = 3 by omega) with rfl | rfl | rfl | rfl
  · rw [if_pos hw.2] at e0 ⊢; omega
  · rw [if_pos hw.2] at e1 ⊢; omega
  · rw [if_pos hw.2] at e2 ⊢; omega
  · rw [if_pos hw.2] at e3 ⊢; omega
theorem SOK.lt {nw nb w : Int} {S : SV} (h : SOK nw nb S) (hw : 0 ≤ w ∧ w < nw) (hn : nw ≤ 4) (hl : sL S w ≠ 0) : sT S < 36 := by
  have h1 := lsm_ge hw hn (fun w h0 h1 => (h.1 w h0 h1).1)
  have h2 := h.1 w hw.1 hw.2
  have h3 := h.2.1
  omega
theorem SOK.tk {nw nb w b t : Int} {S : SV} (h : SOK nw nb S) (hw : 0 ≤ w ∧ w < nw) (hn : nw ≤ 4) (hb : 0 ≤ b ∧ b < nb) (hb3 : nb ≤ 3) (hl : sL S w ≠ 0) : SOK nw nb (vtk S w b t) := by
  have h2 := h.1 w hw.1 hw.2
  have h3 := h.2.1
  refine ⟨fun v h0 h1 => ?_, ⟨?_, ?_⟩, fun c h0 h1 => ?_, fun k h0 h1 => ?_⟩
  · show 0 ≤ usz (sL S) w (sL S w - 1) v ∧ usz (sL S) w (sL S w - 1) v ≤ 9 ∧ -1 ≤ vfi (sF S) w b v ∧ vfi (sF S) w b v ≤ 2
    have h4 := h.1 v h0 h1
    have h5 : -1 ≤ vfi (sF S) w b v ∧ vfi (sF S) w b v ≤ 2 := by
      unfold vfi
      split
      · unfold usz; split <;> omega
      · omega
    unfold usz
    split <;> omega
  · show 0 ≤ sT S + 1
    omega
  · show sT S + 1 + lsm nw (usz (sL S) w (sL S w - 1)) ≤ 36
    rw [lsm_up hw hn]
    omega
  · show 0 ≤ usz (sS S) b (sS S b + 1) c ∧ usz (sS S) b (sS S b + 1) c ≤ sT S + 1
    have h4 := h.2.2.1 c h0 h1
    have h5 := h.2.2.1 b hb.1 hb.2
    unfold usz
    split <;> omega
  · show 0 ≤ usz (sY S) (3 * w + b) (sY S (3 * w + b) + 1) k ∧ usz (sY S) (3 * w + b) (sY S (3 * w + b) + 1) k ≤ sT S + 1
    have h4 := h.2.2.2 k h0 h1
    have h5 := h.2.2.2 (3 * w + b) (by omega) (by omega)
    unfold usz
    split <;> omega
theorem SOK.st {nw nb b t : Int} {W B : Int → Int → Int} {P c : Int → Int} {S : SV} (h : SOK nw nb S) (hw : 0 ≤ P b % 10 ∧ P b % 10 < nw) (hn : nw ≤ 4) (hb : 0 ≤ b ∧ b < nb) (hb3 : nb ≤ 3) : SOK nw nb (vst W B P c S t b) := by
  unfold vst
  split
  · next hv => exact h.tk hw hn hb hb3 hv.2.2.2.2
  · exact h
theorem SOK.rw {nw nb t : Int} {W B : Int → Int → Int} {P : Int → Int} (hF : FrOK nw nb W B) (hmy : PtOK nw nb W B P) : ∀ (m n : Nat) (S : SV), (n : Int) + m ≤ nb → SOK nw nb S → SOK nw nb (vrw nb W B P t m n S)
  | 0, _, _, _, h => h
  | m + 1, n, S, hn, h => by
    unfold vrw
    have h1 := hF.1
    refine SOK.rw hF hmy m (n + 1) _ (by omega) ?_
    split
    · exact h
    · next hb =>
      have h2 := bkv_r nb B P n
      have h3 := hmy.w (b := n) (by omega) (by omega) (by omega)
      exact h.st (by omega) (by omega) (by omega) (by omega)
theorem SOK.al {nw nb : Int} {W B : Int → Int → Int} {P : Int → Int} (hF : FrOK nw nb W B) (hmy : PtOK nw nb W B P) : ∀ (m : Nat) (t : Int) (S : SV), SOK nw nb S → SOK nw nb (val nb W B P m t S)
  | 0, _, _, h => h
  | m + 1, t, S, h => by
    unfold val
    have h1 := hF.1
    exact SOK.al hF hmy m _ _ (SOK.rw hF hmy nb.toNat 0 S (by omega) h)
/-- how the visits begin -/
def SIn (nw nb : Int) (W : Int → Int → Int) (S : SV) : Prop := (∀ w, 0 ≤ w → w < nw → sL S w = W w 2 ∧ sF S w = -1) ∧ sT S = 0 ∧ (∀ b, 0 ≤ b → b < nb → sS S b = 0) ∧ (∀ k, 0 ≤ k → k < 12 → sY S k = 0)
theorem SIn.ok {nw nb : Int} {W B : Int → Int → Int} {S : SV} (hF : FrOK nw nb W B) (h : SIn nw nb W S) : SOK nw nb S := by
  have h1 := hF.1
  refine ⟨fun w h0 h2 => ?_, ⟨by rw [h.2.1]; omega, ?_⟩, fun b h0 h2 => by rw [h.2.2.1 b h0 h2, h.2.1]; omega, fun k h0 h2 => by rw [h.2.2.2 k h0 h2, h.2.1]; omega⟩
  · have e := h.1 w h0 h2
    have e2 := hF.2.1 w h0 h2
    omega
  · rw [h.2.1]
    unfold lsm
    have e : ∀ w, 0 ≤ w → w < nw → sL S w ≤ 9 := fun w h0 h2 => by
      have e := h.1 w h0 h2
      have e2 := hF.2.1 w h0 h2
      omega
    have e0 : (if 0 < nw then sL S 0 else 0) ≤ 9 := by split; exact e 0 (by omega) (by omega); omega
    have e1 : (if 1 < nw then sL S 1 else 0) ≤ 9 := by split; exact e 1 (by omega) (by omega); omega
    have e2 : (if 2 < nw then sL S 2 else 0) ≤ 9 := by split; exact e 2 (by omega) (by omega); omega
    have e3 : (if 3 < nw then sL S 3 else 0) ≤ 9 := by split; exact e 3 (by omega) (by omega); omega
    omega
/-- what b gains -/
def gw (a : Int) (S : SV) (b : Int) : Nat → Int → Int → Int
  | 0, _, v => v
  | m + 1, w, v => gw a S b m (w + 1) (v + (if sF S w = b then a * sY S (3 * w + b) else 0))
def popc (x : Int) : Int := x % 2 + x / 2 % 2 + x / 4 % 2
def gv (nw nb : Int) (B : Int → Int → Int) (P : Int → Int) (law : Int → Int) (S : SV) (b : Int) : Int := if law 3 = 0 then law 0 * sS S b else if law 3 = 1 then law 0 * sT S / (nb - popc (mkb nb B P)) else gw (law 0) S b nw.toNat 0 0
def gnv (nw nb : Int) (W B : Int → Int → Int) (P : Int → Int) (law : Int → Int) (S : SV) (b : Int) : Int := if bkv nb B P b = 1 then law 1 else gv nw nb B P law S b - law 2 * shk nb W B P b
def LwOK (law : Int → Int) : Prop := (0 ≤ law 0 ∧ law 0 ≤ 99) ∧ (0 ≤ law 1 ∧ law 1 ≤ 99) ∧ (0 ≤ law 2 ∧ law 2 ≤ 99) ∧ (0 ≤ law 3 ∧ law 3 ≤ 2)
theorem popc_n {nb b : Int} {B : Int → Int → Int} {P : Int → Int} (hn : nb ≤ 3) (hb : 0 ≤ b ∧ b < nb) (h : bkv nb B P b = 0) : 0 ≤ popc (mkb nb B P) ∧ popc (mkb nb B P) < nb := by
  have e := mkn_eq nb B P (n := nb.toNat) (by omega)
  have h0 := bkv_r nb B P 0
  have h1 := bkv_r nb B P 1
  have h2 := bkv_r nb B P 2
  unfold popc mkb
  rw [e]
  rcases (show nb = 1 ∨ nb = 2 ∨ nb = 3 by omega) with rfl | rfl | rfl
  · obtain rfl : b = 0 := by omega
    rw [h, if_pos (by decide), if_neg (by decide), if_neg (by decide)]; decide
  · rw [if_pos (by decide), if_pos (by decide), if_neg (by decide)]
    rcases (show b = 0 ∨ b = 1 by omega) with rfl | rfl <;> omega
  · rw [if_pos (by decide), if_pos (by decide), if_pos (by decide)]
    rcases (show b = 0 ∨ b = 1 ∨ b = 2 by omega) with rfl | rfl | rfl <;> omega
theorem lsm_nn {nw nb : Int} {S : SV} (h : SOK nw nb S) : 0 ≤ lsm nw (sL S) := by
  have e0 : 0 ≤ (if 0 < nw then sL S 0 else 0) := by split; exact (h.1 0 (by omega) (by omega)).1; omega
  have e1 : 0 ≤ (if 1 < nw then sL S 1 else 0) := by split; exact (h.1 1 (by omega) (by omega)).1; omega
  have e2 : 0 ≤ (if 2 < nw then sL S 2 else 0) := by split; exact (h.1 2 (by omega) (by omega)).1; omega
  have e3 : 0 ≤ (if 3 < nw then sL S 3 else 0) := by split; exact (h.1 3 (by omega) (by omega)).1; omega
  unfold lsm
  omega
