section
/-! next visits and minutes: what the class does is what the reference does -/
def tmv (nb : Int) (W B : Int → Int → Int) (P : Int → Int) (j k : Int) : Int := B j 0 + 1 + clb nb W B P j * (2 * k + 1)
theorem tmv_s (nb : Int) (W B : Int → Int → Int) (P : Int → Int) (j k : Int) : tmv nb W B P j (k + 1) = tmv nb W B P j k + 2 * clb nb W B P j := by
  unfold tmv
  rw [show 2 * (k + 1) + 1 = (2 * k + 1) + 2 by omega, Int.mul_add, Int.mul_comm (clb nb W B P j) 2]
  omega
theorem tmv_0 (nb : Int) (W B : Int → Int → Int) (P : Int → Int) (j : Int) : tmv nb W B P j 0 = B j 0 + 1 + clb nb W B P j := by
  unfold tmv
  rw [show 2 * (0 : Int) + 1 = 1 by omega, Int.mul_one]
theorem tmv_p (nb : Int) (W B : Int → Int → Int) (P : Int → Int) (j k : Int) : tmv nb W B P j (k - 1) = tmv nb W B P j k - 2 * clb nb W B P j := by
  have := tmv_s nb W B P j (k - 1)
  rw [show k - 1 + 1 = k by omega] at this
  omega
theorem tmv_vis {nb : Int} {W B : Int → Int → Int} {P : Int → Int} {j k t : Int} (hc : 1 ≤ clb nb W B P j) (hk : 0 ≤ k) (h1 : t ≤ tmv nb W B P j k) (h2 : k = 0 ∨ tmv nb W B P j (k - 1) < t) : (0 < t - B j 0 - 1 ∧ (t - B j 0 - 1) % clb nb W B P j = 0 ∧ (t - B j 0 - 1) / clb nb W B P j % 2 ≠ 0) ↔ t = tmv nb W B P j k := by
  generalize hce : clb nb W B P j = c at *
  have e0 : tmv nb W B P j k = B j 0 + 1 + c * (2 * k + 1) := by unfold tmv; rw [hce]
  have e1 : tmv nb W B P j (k - 1) = B j 0 + 1 + c * (2 * (k - 1) + 1) := by unfold tmv; rw [hce]
  rw [e0] at h1 ⊢
  rw [e1] at h2
  constructor
  · rintro ⟨a1, a2, a3⟩
    have a4 := Int.mul_ediv_add_emod (t - B j 0 - 1) c
    generalize hq : (t - B j 0 - 1) / c = q at *
    rw [a2, Int.add_zero] at a4
    have b1 : q ≤ 2 * k + 1 := Int.le_of_mul_le_mul_left (a := c) (by omega) (by omega)
    have b2 : 0 < q := by
      rcases Int.lt_or_le 0 q with z | z
      · exact z
      · have := Int.mul_le_mul_of_nonneg_left z (show 0 ≤ c by omega)
        omega
    have b3 : 2 * k ≤ q := by
      rcases h2 with h2 | h2
      · omega
      · have : 2 * (k - 1) + 1 < q := Int.lt_of_mul_lt_mul_left (a := c) (by omega) (by omega)
        omega
    have b4 : q = 2 * k + 1 := by omega
    rw [b4] at a4
    omega
  · intro ht
    have a1 : t - B j 0 - 1 = c * (2 * k + 1) := by omega
    rw [a1]
    refine ⟨Int.mul_pos (by omega) (by omega), Int.mul_emod_right _ _, ?_⟩
    rw [Int.mul_ediv_cancel_left _ (by omega)]
    omega
/-- what is known ahead of brigade n at the minute t -/
def PIn (nb : Int) (W B : Int → Int → Int) (P : Int → Int) (t n : Int) (S : SV) (nx : Int → Int) : Prop := ∀ j, 0 ≤ j → j < 3 → (¬ (j < nb ∧ bkv nb B P j = 0) → nx j = 1000) ∧ (j < nb → bkv nb B P j = 0 → ∃ k : Int, 0 ≤ k ∧ nx j = itm W (sL S) (P j % 10) (tmv nb W B P j k) ∧ (t < tmv nb W B P j k ∨ t = tmv nb W B P j k ∧ n ≤ j) ∧ (k = 0 ∨ tmv nb W B P j (k - 1) < t ∨ tmv nb W B P j (k - 1) = t ∧ j < n))
theorem itm_t {W : Int → Int → Int} {l : Int → Int} {w t : Int} (h : 0 < l w) (h2 : t < W w 3) : itm W l w t = t := if_pos ⟨h, h2⟩
theorem itm_f {W : Int → Int → Int} {l : Int → Int} {w t : Int} (h : ¬ (0 < l w ∧ t < W w 3)) : itm W l w t = 1000 := if_neg h
theorem itm_ge {W : Int → Int → Int} {l : Int → Int} {w t u : Int} (hu : u ≤ 1000) (h : u ≤ t) : u ≤ itm W l w t := by unfold itm; split <;> omega
theorem PIn.st {nw nb : Int} {W B : Int → Int → Int} {P : Int → Int} (hF : FrOK nw nb W B) (hmy : PtOK nw nb W B P) {t n : Int} {S : SV} {nx : Int → Int} {f : Nat} (ht : 1 ≤ t ∧ t < 60) (hn : 0 ≤ n ∧ n < nb) (hS : SOK nw nb S) (hf : lsm nw (sL S) ≤ f) (h : PIn nb W B P t n S nx) : ∃ (f' : Nat) (nx' : Int → Int), crn nb W B P f S nx = crn nb W B P f' (if bkv nb B P n = 1 then S else vst W B P (clb nb W B P) S t n) nx' ∧ PIn nb W B P t (n + 1) (if bkv nb B P n = 1 then S else vst W B P (clb nb W B P) S t n) nx' ∧ lsm nw (sL (if bkv nb B P n = 1 then S else vst W B P (clb nb W B P) S t n)) ≤ f' := by
  have h00 := hF.1
  have hbr := bkv_r nb B P n
  by_cases hb : bkv nb B P n = 1
  · rw [if_pos hb]
    refine ⟨f, nx, rfl, fun j h0 h1 => ⟨(h j h0 h1).1, fun h2 h3 => ?_⟩, hf⟩
    obtain ⟨k, k0, k1, k2, k3⟩ := (h j h0 h1).2 h2 h3
    have hne : j ≠ n := fun z => by rw [z] at h3; omega
    exact ⟨k, k0, k1, by omega, by omega⟩
  · rw [if_neg hb]
    have hb0 : bkv nb B P n = 0 := by omega
    have hc := clb_r hF hmy hn.1 hn.2 hb0
    have hpw := hmy.w hn.1 hn.2 hb0
    have hsw := hS.1 (P n % 10) (by omega) (by omega)
    obtain ⟨k, k0, k1, k2, k3⟩ := (h n hn.1 (by omega)).2 hn.2 hb0
    have hv := tmv_vis (j := n) (k := k) (t := t) hc.1 k0 (by omega) (by omega)
    by_cases hvs : vis W B P (clb nb W B P) S t n
    · have ht2 : t = tmv nb W B P n k := hv.mp ⟨hvs.1, hvs.2.1, hvs.2.2.1⟩
      have hl : 0 < sL S (P n % 10) := by have := hvs.2.2.2.2; omega
      have hx : nx n = t := by rw [k1, ← ht2]; exact itm_t hl hvs.2.2.2.1
      have ha : amn nx = n := by
        have hge : ∀ j, 0 ≤ j → j < 3 → (j < n → t < nx j) ∧ (n < j → t ≤ nx j) := by
          intro j h0 h1
          by_cases hj : j < nb ∧ bkv nb B P j = 0
          · obtain ⟨k', k0', k1', k2', k3'⟩ := (h j h0 h1).2 hj.1 hj.2
            rw [k1']
            exact ⟨fun z => itm_ge (u := t + 1) (by omega) (by omega), fun z => itm_ge (by omega) (by omega)⟩
          · rw [(h j h0 h1).1 hj]; omega
        have g0 := hge 0 (by omega) (by omega)
        have g1 := hge 1 (by omega) (by omega)
        have g2 := hge 2 (by omega) (by omega)
        unfold amn
        rcases (show n = 0 ∨ n = 1 ∨ n = 2 by omega) with rfl | rfl | rfl
        · rw [if_neg (by omega), if_neg (by omega)]
        · rw [if_pos (by omega), if_neg (by omega)]
        · by_cases q : nx 1 < nx 0
          · rw [if_pos q, if_pos (by omega)]
          · rw [if_neg q, if_pos (by omega)]
      have hlm := lsm_ge (nw := nw) (w := P n % 10) (l := sL S) (by omega) (by omega) (fun w h0 h1 => (hS.1 w h0 h1).1)
      obtain ⟨f', rfl⟩ : ∃ f', f = f' + 1 := ⟨f - 1, by omega⟩
      rw [vst, if_pos hvs]
      refine ⟨f', nxu nb W B P S nx n, ?_, fun j h0 h1 => ⟨fun hj => ?_, fun h2 h3 => ?_⟩, ?_⟩
      · rw [crn, ha, hx, if_neg (by omega)]
      · have hne : j ≠ n := fun z => hj (z ▸ ⟨hn.2, hb0⟩)
        rw [nxu]
        split
        · rfl
        · first | exact (h j h0 h1).1 hj | (rw [if_neg hne]; exact (h j h0 h1).1 hj)
      · obtain ⟨k', k0', k1', k2', k3'⟩ := (h j h0 h1).2 h2 h3
        have hxw := xwi_t h2 h3
        show ∃ k : Int, 0 ≤ k ∧ nxu nb W B P S nx n j = itm W (usz (sL S) (P n % 10) (sL S (P n % 10) - 1)) (P j % 10) (tmv nb W B P j k) ∧ _ ∧ _
        by_cases hj : j = n
        · subst hj
          refine ⟨k + 1, by omega, ?_, Or.inl (by rw [tmv_s]; omega), Or.inr (Or.inr ⟨by rw [show k + 1 - 1 = k by omega]; omega, by omega⟩)⟩
          rw [nxu]
          by_cases e1 : sL S (P j % 10) = 1
          · rw [if_pos ⟨e1, hxw.1⟩, itm_f]
            rw [usz_s]; omega
          · rw [if_neg (fun z => e1 z.1), if_pos rfl, hx, tmv_s, ← ht2]
        · refine ⟨k', k0', ?_, by omega, by omega⟩
          rw [nxu]
          by_cases e2 : P j % 10 = P n % 10
          · have hsl : usz (sL S) (P n % 10) (sL S (P n % 10) - 1) (P j % 10) = sL S (P n % 10) - 1 := by rw [e2, usz_s]
            by_cases e1 : sL S (P n % 10) = 1
            · rw [if_pos ⟨e1, by rw [hxw.1, e2]⟩, itm_f]
              rw [hsl]; omega
            · rw [if_neg (fun z => e1 z.1), if_neg hj, k1']
              unfold itm
              rw [hsl, e2]
              by_cases e3 : tmv nb W B P j k' < W (P n % 10) 3
              · rw [if_pos ⟨hl, e3⟩, if_pos ⟨by omega, e3⟩]
              · rw [if_neg (fun z => e3 z.2), if_neg (fun z => e3 z.2)]
          · rw [if_neg (fun z => e2 (hxw.1 ▸ z.2)), if_neg hj, k1']
            unfold itm
            rw [usz_n e2]
      · show lsm nw (usz (sL S) (P n % 10) (sL S (P n % 10) - 1)) ≤ _
        rw [lsm_up (by omega) (by omega)]
        omega
    · rw [vst, if_neg hvs]
      refine ⟨f, nx, rfl, fun j h0 h1 => ⟨(h j h0 h1).1, fun h2 h3 => ?_⟩, hf⟩
      by_cases hj : j = n
      · subst hj
        by_cases e : t = tmv nb W B P j k
        · have e4 := hv.mpr e
          have e2 : ¬ (0 < sL S (P j % 10) ∧ t < W (P j % 10) 3) := fun z => hvs ⟨e4.1, e4.2.1, e4.2.2, z.2, by omega⟩
          refine ⟨k + 1, by omega, ?_, Or.inl (by rw [tmv_s]; omega), Or.inr (Or.inr ⟨by rw [show k + 1 - 1 = k by omega]; omega, by omega⟩)⟩
          rw [k1, ← e, itm_f e2, itm_f]
          rw [tmv_s]
          intro z
          exact e2 ⟨z.1, by omega⟩
        · exact ⟨k, k0, k1, by omega, by omega⟩
      · obtain ⟨k', k0', k1', k2', k3'⟩ := (h j h0 h1).2 h2 h3
        exact ⟨k', k0', k1', by omega, by omega⟩
theorem PIn.rw {nw nb : Int} {W B : Int → Int → Int} {P : Int → Int} (hF : FrOK nw nb W B) (hmy : PtOK nw nb W B P) {t : Int} (ht : 1 ≤ t ∧ t < 60) : ∀ (m n : Nat) (S : SV) (nx : Int → Int) (f : Nat), (n : Int) + m = nb → SOK nw nb S → lsm nw (sL S) ≤ f → PIn nb W B P t n S nx → ∃ (f' : Nat) (nx' : Int → Int), crn nb W B P f S nx = crn nb W B P f' (vrw nb W B P t m n S) nx' ∧ PIn nb W B P t nb (vrw nb W B P t m n S) nx' ∧ lsm nw (sL (vrw nb W B P t m n S)) ≤ f'
  | 0, n, S, nx, f, hn, _, hf, h => by
    obtain rfl : nb = (n : Int) := by omega
    exact ⟨f, nx, rfl, h, hf⟩
  | m + 1, n, S, nx, f, hn, hS, hf, h => by
    obtain ⟨f1, nx1, e1, h1, hf1⟩ := PIn.st hF hmy ht (n := (n : Int)) (by omega) hS hf h
    have hS1 : SOK nw nb (if bkv nb B P n = 1 then S else vst W B P (clb nb W B P) S t n) := by
      have h2 := bkv_r nb B P n
      have h00 := hF.1
      split
      · exact hS
      · have h3 := hmy.w (b := n) (by omega) (by omega) (by omega)
        exact hS.st (by omega) (by omega) (by omega) (by omega)
    obtain ⟨f2, nx2, e2, h2, hf2⟩ := PIn.rw hF hmy ht m (n + 1) _ nx1 f1 (by omega) hS1 hf1 h1
    exact ⟨f2, nx2, by rw [e1, e2, vrw], by rw [vrw]; exact h2, by rw [vrw]; exact hf2⟩
theorem PIn.nx {nb : Int} {W B : Int → Int → Int} {P : Int → Int} {t : Int} {S : SV} {nx : Int → Int} (h : PIn nb W B P t nb S nx) : PIn nb W B P (t + 1) 0 S nx := by
  refine fun j h0 h1 => ⟨(h j h0 h1).1, fun h2 h3 => ?_⟩
  obtain ⟨k, k0, k1, k2, k3⟩ := (h j h0 h1).2 h2 h3
  exact ⟨k, k0, k1, by omega, by omega⟩
theorem crn_al {nw nb : Int} {W B : Int → Int → Int} {P : Int → Int} (hF : FrOK nw nb W B) (hmy : PtOK nw nb W B P) : ∀ (m : Nat) (t : Int) (S : SV) (nx : Int → Int) (f : Nat), 1 ≤ t → t + m = 60 → SOK nw nb S → lsm nw (sL S) ≤ f → PIn nb W B P t 0 S nx → crn nb W B P f S nx = val nb W B P m t S
  | 0, t, S, nx, f, h0, ht, _, _, h => by
    have ha := amn_r nx
    have e : nx (amn nx) = 1000 := by
      by_cases hj : amn nx < nb ∧ bkv nb B P (amn nx) = 0
      · obtain ⟨k, k0, k1, k2, k3⟩ := (h _ ha.1 ha.2).2 hj.1 hj.2
        have hpw := hmy.w ha.1 hj.1 hj.2
        have hw := hF.2.1 (P (amn nx) % 10) (by omega) (by omega)
        rw [k1, itm_f]
        omega
      · exact (h _ ha.1 ha.2).1 hj
    cases f with
    | zero => rfl
    | succ f => rw [crn, if_pos e]; rfl
  | m + 1, t, S, nx, f, h0, ht, hS, hf, h => by
    have h00 := hF.1
    obtain ⟨f1, nx1, e1, h1, hf1⟩ := PIn.rw hF hmy (t := t) (by omega) nb.toNat 0 S nx f (by omega) hS hf h
    rw [e1, val]
    exact crn_al hF hmy m (t + 1) _ nx1 f1 (by omega) (by omega) (SOK.rw hF hmy nb.toNat 0 S (by omega) hS) hf1 h1.nx
theorem crn_val {nw nb : Int} {W B : Int → Int → Int} {P : Int → Int} (hF : FrOK nw nb W B) (hmy : PtOK nw nb W B P) {S : SV} (hI : SIn nw nb W S) : crn nb W B P 36 S (nx0 nb W B P (sL S)) = val nb W B P 59 1 S := by
  have hO := hI.ok hF
  refine crn_al hF hmy 59 1 S _ 36 (by omega) (by omega) hO (by have := hO.2.1; rw [hI.2.1] at this; omega) (fun j h0 h1 => ⟨fun h => ?_, fun h2 h3 => ?_⟩)
  · rw [nx0, if_neg h]
  · have hc := clb_r hF hmy h0 h2 h3
    have hb := hF.2.2 j h0 h2
    refine ⟨0, by omega, ?_, Or.inl ?_, Or.inl rfl⟩
    · rw [nx0, if_pos ⟨h2, h3⟩, tmv_0]
    · rw [tmv_0]; omega
/-! what the same visits leave, whatever lay there -/
def SEq (nw nb : Int) (S S' : SV) : Prop := (∀ w, 0 ≤ w → w < nw → sL S w = sL S' w ∧ sF S w = sF S' w) ∧ sT S = sT S' ∧ (∀ b, 0 ≤ b → b < nb → sS S b = sS S' b) ∧ (∀ k, 0 ≤ k → k < 12 → sY S k = sY S' k) ∧ (∀ k, 0 ≤ k → k < sT S → sA S k = sA S' k ∧ sB S k = sB S' k ∧ sC S k = sC S' k)
theorem SEq.in {nw nb : Int} {W : Int → Int → Int} {S S' : SV} (h : SIn nw nb W S) (h' : SIn nw nb W S') : SEq nw nb S S' :=
  ⟨fun w h0 h1 => ⟨(h.1 w h0 h1).1.trans (h'.1 w h0 h1).1.symm, (h.1 w h0 h1).2.trans (h'.1 w h0 h1).2.symm⟩, h.2.1.trans h'.2.1.symm, fun b h0 h1 => (h.2.2.1 b h0 h1).trans (h'.2.2.1 b h0 h1).symm, fun k h0 h1 => (h.2.2.2 k h0 h1).trans (h'.2.2.2 k h0 h1).symm, fun k h0 h1 => by rw [h.2.1] at h1; omega⟩
theorem usz_c {f g : Int → Int} {k v u j : Int} (h : j ≠ k → f j = g j) (h2 : v = u) : usz f k v j = usz g k u j := by
  unfold usz
  split
  · exact h2
  · next e => exact h e
theorem SEq.tk {nw nb : Int} {S S' : SV} {w b t : Int} (h : SEq nw nb S S') (hw : 0 ≤ w ∧ w < nw) (hn : nw ≤ 4) (hb : 0 ≤ b ∧ b < nb) (hn2 : nb ≤ 3) : SEq nw nb (vtk S w b t) (vtk S' w b t) := by
  obtain ⟨h1, h2, h3, h4, h5⟩ := h
  refine ⟨fun v v0 v1 => ⟨usz_c (fun _ => (h1 v v0 v1).1) (by rw [(h1 w hw.1 hw.2).1]), ?_⟩, ?_, fun c c0 c1 => usz_c (fun _ => h3 c c0 c1) (by rw [h3 b hb.1 hb.2]), fun k k0 k1 => usz_c (fun _ => h4 k k0 k1) (by rw [h4 (3 * w + b) (by omega) (by omega)]), fun k k0 k1 => ?_⟩
  · show vfi (sF S) w b v = vfi (sF S') w b v
    unfold vfi
    rw [(h1 w hw.1 hw.2).2]
    split
    · exact usz_c (fun _ => (h1 v v0 v1).2) rfl
    · exact (h1 v v0 v1).2
  · show sT S + 1 = sT S' + 1
    rw [h2]
  · have k1' : k < sT S + 1 := k1
    show usz (sA S) (sT S) t k = usz (sA S') (sT S') t k ∧ usz (sB S) (sT S) b k = usz (sB S') (sT S') b k ∧ usz (sC S) (sT S) w k = usz (sC S') (sT S') w k
    rw [← h2]
    exact ⟨usz_c (fun e => (h5 k k0 (by omega)).1) rfl, usz_c (fun e => (h5 k k0 (by omega)).2.1) rfl, usz_c (fun e => (h5 k k0 (by omega)).2.2) rfl⟩
theorem SEq.st {nw nb : Int} {W B : Int → Int → Int} {P c : Int → Int} {S S' : SV} {b t : Int} (h : SEq nw nb S S') (hw : 0 ≤ P b % 10 ∧ P b % 10 < nw) (hn : nw ≤ 4) (hb : 0 ≤ b ∧ b < nb) (hn2 : nb ≤ 3) : SEq nw nb (vst W B P c S t b) (vst W B P c S' t b) := by
  unfold vst
  have e : vis W B P c S t b ↔ vis W B P c S' t b := by unfold vis; rw [(h.1 _ hw.1 hw.2).1]
  by_cases hv : vis W B P c S t b
  · rw [if_pos hv, if_pos (e.mp hv)]; exact h.tk hw hn hb hn2
  · rw [if_neg hv, if_neg (fun z => hv (e.mpr z))]; exact h
theorem SEq.rw {nw nb : Int} {W B : Int → Int → Int} {P : Int → Int} (hF : FrOK nw nb W B) (hmy : PtOK nw nb W B P) {t : Int} : ∀ (m n : Nat) (S S' : SV), (n : Int) + m ≤ nb → SEq nw nb S S' → SEq nw nb (vrw nb W B P t m n S) (vrw nb W B P t m n S')
  | 0, _, _, _, _, h => h
  | m + 1, n, S, S', hn, h => by
    unfold vrw
    have h1 := hF.1
    refine SEq.rw hF hmy m (n + 1) _ _ (by omega) ?_
    split
    · exact h
    · next hb =>
      have h2 := bkv_r nb B P n
      have h3 := hmy.w (b := n) (by omega) (by omega) (by omega)
      exact h.st (by omega) (by omega) (by omega) (by omega)
theorem SEq.al {nw nb : Int} {W B : Int → Int → Int} {P : Int → Int} (hF : FrOK nw nb W B) (hmy : PtOK nw nb W B P) : ∀ (m : Nat) (t : Int) (S S' : SV), SEq nw nb S S' → SEq nw nb (val nb W B P m t S) (val nb W B P m t S')
  | 0, _, _, _, h => h
  | m + 1, t, S, S', h => by
    unfold val
    have h1 := hF.1
    exact SEq.al hF hmy m _ _ _ (SEq.rw hF hmy nb.toNat 0 S S' (by omega) h)
/-! sums -/
def sm3 (nb : Int) (f : Int → Int) : Int := (if 0 < nb then f 0 else 0) + (if 1 < nb then f 1 else 0) + (if 2 < nb then f 2 else 0)
theorem sm3_up {nb b : Int} {f : Int → Int} (hb : 0 ≤ b ∧ b < nb) (hn : nb ≤ 3) (v : Int) : sm3 nb (usz f b v) = sm3 nb f - f b + v := by
  unfold sm3
  rcases (show b = 0 ∨ b = 1 ∨ b = 2 by omega) with rfl | rfl | rfl
  · rw [if_pos hb.2, if_pos hb.2, usz_s, usz_n (by omega), usz_n (by omega)]; omega
  · rw [if_pos hb.2, if_pos hb.2, usz_s, usz_n (by omega), usz_n (by omega)]; omega
  · rw [if_pos hb.2, if_pos hb.2, usz_s, usz_n (by omega), usz_n (by omega)]; omega
theorem sm3_c {nb : Int} {f g : Int → Int} (h : ∀ b, 0 ≤ b → b < nb → f b = g b) : sm3 nb f = sm3 nb g := by
  unfold sm3
  have e0 : (if 0 < nb then f 0 else 0) = (if 0 < nb then g 0 else 0) := by split; exact h 0 (by omega) (by omega); rfl
  have e1 : (if 1 < nb then f 1 else 0) = (if 1 < nb then g 1 else 0) := by split; exact h 1 (by omega) (by omega); rfl
  have e2 : (if 2 < nb then f 2 else 0) = (if 2 < nb then g 2 else 0) := by split; exact h 2 (by omega) (by omega); rfl
  rw [e0, e1, e2]
theorem sm3_ge {nb b : Int} {f : Int → Int} (hb : 0 ≤ b ∧ b < nb) (hn : nb ≤ 3) (h : ∀ b, 0 ≤ b → b < nb → 0 ≤ f b) : f b ≤ sm3 nb f := by
  have e0 : 0 ≤ (if 0 < nb then f 0 else 0) := by split; exact h 0 (by omega) (by omega); omega
  have e1 : 0 ≤ (if 1 < nb then f 1 else 0) := by split; exact h 1 (by omega) (by omega); omega
  have e2 : 0 ≤ (if 2 < nb then f 2 else 0) := by split; exact h 2 (by omega) (by omega); omega
  unfold sm3
  rcases (show b = 0 ∨ b = 1 ∨ b = 2 by omega) with rfl | rfl | rfl
  · rw [if_pos hb.2] at e0 ⊢; omega
  · rw [if_pos hb.2] at e1 ⊢; omega
  · rw [if_pos hb.2] at e2 ⊢; omega
/-- what f says of those that go to w -/
def atw (nb : Int) (B : Int → Int → Int) (P : Int → Int) (f : Int → Int) (w : Int) : Int → Int := fun b => if bkv nb B P b = 0 ∧ P b % 10 = w then f b else 0
/-- who saved where -/
def SJ (nw nb : Int) (W B : Int → Int → Int) (P : Int → Int) (S : SV) : Prop := (∀ b w, 0 ≤ b → b < nb → 0 ≤ w → w < nw → sY S (3 * w + b) = atw nb B P (sS S) w b) ∧ (∀ b, 0 ≤ b → b < nb → bkv nb B P b = 1 → sS S b = 0) ∧ sT S = sm3 nb (sS S) ∧ (∀ w, 0 ≤ w → w < nw → sm3 nb (atw nb B P (sS S) w) + sL S w = W w 2)
theorem sm3_0 {nb : Int} {f : Int → Int} (h : ∀ b, 0 ≤ b → b < nb → f b = 0) : sm3 nb f = 0 := by
  rw [sm3_c (g := fun _ => 0) h]
  unfold sm3
  (repeat' split) <;> rfl
theorem SJ.in {nw nb : Int} {W B : Int → Int → Int} {P : Int → Int} {S : SV} (hF : FrOK nw nb W B) (h : SIn nw nb W S) : SJ nw nb W B P S := by
  have h00 := hF.1
  have e : ∀ w b, 0 ≤ b → b < nb → atw nb B P (sS S) w b = 0 := fun w b h0 h1 => by
    unfold atw
    rw [h.2.2.1 b h0 h1]
    split <;> rfl
  refine ⟨fun b w b0 b1 w0 w1 => ?_, fun b h0 h1 _ => h.2.2.1 b h0 h1, ?_, fun w h0 h1 => ?_⟩
  · rw [h.2.2.2 (3 * w + b) (by omega) (by omega), e w b b0 b1]
  · rw [h.2.1, sm3_0 h.2.2.1]
  · rw [sm3_0 (e w), (h.1 w h0 h1).1]; omega
theorem SJ.tk {nw nb : Int} {W B : Int → Int → Int} {P : Int → Int} {S : SV} {b t : Int} (hF : FrOK nw nb W B) (h : SJ nw nb W B P S) (hw : 0 ≤ P b % 10 ∧ P b % 10 < nw) (hb : 0 ≤ b ∧ b < nb) (hk : bkv nb B P b = 0) : SJ nw nb W B P (vtk S (P b % 10) b t) := by
  have h00 := hF.1
  obtain ⟨h1, h2, h3, h4⟩ := h
  have e : ∀ w, atw nb B P (usz (sS S) b (sS S b + 1)) w = if P b % 10 = w then usz (atw nb B P (sS S) w) b (sS S b + 1) else atw nb B P (sS S) w := by
    intro w
    by_cases ew : P b % 10 = w
    · rw [if_pos ew]
      funext c
      by_cases ec : c = b
      · subst ec
        rw [usz_s, atw, if_pos ⟨hk, ew⟩, usz_s]
      · rw [usz_n ec, atw, atw, usz_n ec]
    · rw [if_neg ew]
      funext c
      by_cases ec : c = b
      · subst ec
        rw [atw, atw, if_neg (fun z => ew z.2), if_neg (fun z => ew z.2)]
      · rw [atw, atw, usz_n ec]
  refine ⟨fun c w c0 c1 w0 w1 => ?_, fun c c0 c1 ck => ?_, ?_, fun w w0 w1 => ?_⟩
  · show usz (sY S) (3 * (P b % 10) + b) (sY S (3 * (P b % 10) + b) + 1) (3 * w + c) = atw nb B P (usz (sS S) b (sS S b + 1)) w c
    rw [e w]
    by_cases ew : P b % 10 = w
    · rw [if_pos ew]
      by_cases ec : c = b
      · subst ec
        rw [ew, usz_s, usz_s, h1 c w c0 c1 w0 w1, atw, if_pos ⟨hk, ew⟩]
      · rw [usz_n (by omega), usz_n ec]; exact h1 c w c0 c1 w0 w1
    · rw [if_neg ew, usz_n (by omega)]; exact h1 c w c0 c1 w0 w1
  · show usz (sS S) b (sS S b + 1) c = 0
    rw [usz_n (fun z => by rw [z] at ck; omega)]
    exact h2 c c0 c1 ck
  · show sT S + 1 = sm3 nb (usz (sS S) b (sS S b + 1))
    rw [sm3_up hb (by omega)]
    omega
  · show sm3 nb (atw nb B P (usz (sS S) b (sS S b + 1)) w) + usz (sL S) (P b % 10) (sL S (P b % 10) - 1) w = W w 2
    rw [e w]
    have h5 := h4 w w0 w1
    by_cases ew : P b % 10 = w
    · rw [if_pos ew, sm3_up hb (by omega), ew, usz_s, atw, if_pos ⟨hk, ew⟩]
      unfold atw at h5 ⊢
      omega
    · rw [if_neg ew, usz_n (fun z => ew z.symm)]; exact h5
theorem SJ.rw {nw nb : Int} {W B : Int → Int → Int} {P : Int → Int} (hF : FrOK nw nb W B) (hmy : PtOK nw nb W B P) {t : Int} : ∀ (m n : Nat) (S : SV), (n : Int) + m ≤ nb → SJ nw nb W B P S → SJ nw nb W B P (vrw nb W B P t m n S)
  | 0, _, _, _, h => h
  | m + 1, n, S, hn, h => by
    unfold vrw
    have h1 := hF.1
    refine SJ.rw hF hmy m (n + 1) _ (by omega) ?_
    split
    · exact h
    · next hb =>
      have h2 := bkv_r nb B P n
      have h3 := hmy.w (b := n) (by omega) (by omega) (by omega)
      unfold vst
      split
      · exact h.tk hF (by omega) (by omega) (by omega)
      · exact h
theorem SJ.al {nw nb : Int} {W B : Int → Int → Int} {P : Int → Int} (hF : FrOK nw nb W B) (hmy : PtOK nw nb W B P) : ∀ (m : Nat) (t : Int) (S : SV), SJ nw nb W B P S → SJ nw nb W B P (val nb W B P m t S)
  | 0, _, _, h => h
  | m + 1, t, S, h => by
    unfold val
    have h1 := hF.1
    exact SJ.al hF hmy m _ _ (SJ.rw hF hmy nb.toNat 0 S (by omega) h)
theorem SJ.s9 {nw nb : Int} {W B : Int → Int → Int} {P : Int → Int} {S : SV} (hF : FrOK nw nb W B) (hmy : PtOK nw nb W B P) (hS : SOK nw nb S) (h : SJ nw nb W B P S) {b : Int} (hb : 0 ≤ b ∧ b < nb) : 0 ≤ sS S b ∧ sS S b ≤ 9 := by
  have h00 := hF.1
  have h1 := hS.2.2.1 b hb.1 hb.2
  have h2 := bkv_r nb B P b
  refine ⟨h1.1, ?_⟩
  by_cases hk : bkv nb B P b = 1
  · rw [h.2.1 b hb.1 hb.2 hk]; omega
  · have h3 := hmy.w hb.1 hb.2 (by omega)
    have h4 := h.2.2.2 (P b % 10) (by omega) (by omega)
    have h5 := hF.2.1 (P b % 10) (by omega) (by omega)
    have h6 := hS.1 (P b % 10) (by omega) (by omega)
    have h7 := sm3_ge (f := atw nb B P (sS S) (P b % 10)) hb (by omega) (fun c c0 c1 => by unfold atw; have := hS.2.2.1 c c0 c1; split <;> omega)
    have h8 : atw nb B P (sS S) (P b % 10) b = sS S b := if_pos ⟨by omega, rfl⟩
    omega
end
