/-! nights of both sides, by wip/tools -/
/-! nights that are put by: how many, how many can be undone, saved, gained, and of each night back what was saved and gained -/
theorem beqf {j k : Nat} (h : j ≠ k) : Nat.beq j k = false := by
  cases hq : Nat.beq j k with
  | false => rfl
  | true => exact absurd (Nat.eq_of_beq_eq_true hq) h
abbrev SD : Type := Int × Int × (Int → Int) × (Int → Int) × (Int → Int → Int) × (Int → Int → Int)
def dN (D : SD) : Int := D.1
def dU (D : SD) : Int := D.2.1
def dS (D : SD) : Int → Int := D.2.2.1
def dG (D : SD) : Int → Int := D.2.2.2.1
def dHs (D : SD) : Int → Int → Int := D.2.2.2.2.1
def dHg (D : SD) : Int → Int → Int := D.2.2.2.2.2
/-- nights as arrays hold them, the class and its image -/
def NtA (D : SD) (n u : Int) (f37 f38 f39 f40 : Int → Int) : Prop := n = dN D ∧ u = dU D ∧ (∀ b, 0 ≤ b → b < 3 → f37 b = dS D b ∧ f38 b = dG D b) ∧ (∀ i b, 0 ≤ i → i < dU D → 0 ≤ b → b < 3 → f39 ((dN D - i) % 40 * 3 + b) = dHs D i b ∧ f40 ((dN D - i) % 40 * 3 + b) = dHg D i b)
abbrev NtX (D : SD) (sc : Nat → Int) (ar : Nat → Int → Int) : Prop := NtA D (sc 3106) (sc 3107) (ar 37) (ar 38) (ar 39) (ar 40)
/-- the same in the reference and its image -/
def NtB (nb : Int) (D : SD) (n u : Int) (f92 f93 f114 f115 : Int → Int) : Prop := n = dN D ∧ u = dU D ∧ (∀ b, 0 ≤ b → b < 3 → f92 b = dS D b ∧ f93 b = dG D b) ∧ (∀ i b, 0 ≤ i → i < dU D → 0 ≤ b → b < nb → f114 (3 * (dU D - 1 - i) + b) = dHs D i b ∧ f115 (3 * (dU D - 1 - i) + b) = dHg D i b)
abbrev NtM (nb : Int) (D : SD) (sc : Nat → Int) (ar : Nat → Int → Int) : Prop := NtB nb D (sc 8032) (sc 8059) (ar 92) (ar 93) (ar 114) (ar 115)
def NtOK (nb : Int) (D : SD) : Prop := (0 ≤ dU D ∧ dU D ≤ 40) ∧ dU D ≤ dN D ∧ dN D < 1000000 ∧ (∀ i b, nb ≤ b → dHs D i b = 0 ∧ dHg D i b = 0)
/-- a night more -/
def nst (nb : Int) (s g : Int → Int) (D : SD) : SD := (dN D + 1, min (dU D + 1) 40, fun b => if b < nb then dS D b + s b else dS D b, fun b => if b < nb then dG D b + g b else dG D b, fun i b => if i = 0 then (if b < nb then s b else 0) else dHs D (i - 1) b, fun i b => if i = 0 then (if b < nb then g b else 0) else dHg D (i - 1) b)
/-- a night undone -/
def nun (D : SD) : SD := (dN D - 1, dU D - 1, fun b => dS D b - dHs D 0 b, fun b => dG D b - dHg D 0 b, fun i b => dHs D (i + 1) b, fun i b => dHg D (i + 1) b)
theorem NtOK.st {nb : Int} {D : SD} (h : NtOK nb D) (hn : dN D < 999999) (s g : Int → Int) : NtOK nb (nst nb s g D) := by
  obtain ⟨h1, h2, h3, h4⟩ := h
  refine ⟨?_, ?_, ?_, fun i b hb => ?_⟩
  · show 0 ≤ min (dU D + 1) 40 ∧ min (dU D + 1) 40 ≤ 40; omega
  · show min (dU D + 1) 40 ≤ dN D + 1; omega
  · show dN D + 1 < 1000000; omega
  · show (if i = 0 then (if b < nb then s b else 0) else dHs D (i - 1) b) = 0 ∧ (if i = 0 then (if b < nb then g b else 0) else dHg D (i - 1) b) = 0
    by_cases e : i = 0
    · rw [if_pos e, if_pos e, if_neg (by omega), if_neg (by omega)]; exact ⟨rfl, rfl⟩
    · rw [if_neg e, if_neg e]; exact h4 _ b hb
theorem NtOK.un {nb : Int} {D : SD} (h : NtOK nb D) (hu : 0 < dU D) : NtOK nb (nun D) := by
  obtain ⟨h1, h2, h3, h4⟩ := h
  refine ⟨?_, ?_, ?_, fun i b hb => h4 _ b hb⟩
  · show 0 ≤ dU D - 1 ∧ dU D - 1 ≤ 40; omega
  · show dU D - 1 ≤ dN D - 1; omega
  · show dN D - 1 < 1000000; omega
/-- a row of three written at t, the first n of them -/
def up3 (t n : Int) (s h : Int → Int) : Int → Int := fun k => if t ≤ k ∧ k < t + 3 then (if k - t < n then s (k - t) else 0) else h k
theorem up3_s {t n k v : Int} {s h f : Int → Int} (hn : 0 ≤ n ∧ n < 3) (hf : ∀ k, 0 ≤ k → k < 120 → f k = up3 t n s h k) (hv : v = s n) (hk : 0 ≤ k ∧ k < 120) : usz f (t + n) v k = up3 t (n + 1) s h k := by
  unfold up3 at hf ⊢
  by_cases e : k = t + n
  · subst e; rw [usz_s, if_pos (by omega), if_pos (by omega), hv, show t + n - t = n by omega]
  · rw [usz_n e, hf k hk.1 hk.2]
    by_cases e2 : t ≤ k ∧ k < t + 3
    · rw [if_pos e2, if_pos e2]
      by_cases e3 : k - t < n
      · rw [if_pos e3, if_pos (by omega)]
      · rw [if_neg e3, if_neg (by omega)]
    · rw [if_neg e2, if_neg e2]
def nxF : List Nat := [3106, 3107]
def nxA : List Nat := [37, 38, 39, 40]
def nmF : List Nat := [8032, 8059, 8046, 8047]
def nmA : List Nat := [92, 93, 114, 115, 97, 98, 99, 100, 101, 102, 103, 104, 105, 106]
theorem NtX.st {nb : Int} {D : SD} {sc sc' : Nat → Int} {ar ar' : Nat → Int → Int} {s g : Int → Int} (hb : 0 ≤ nb ∧ nb ≤ 3) (hO : NtOK nb D) (h : NtX D sc ar) (e1 : sc' 3106 = dN D + 1) (e2 : sc' 3107 = min (dU D + 1) 40) (e3 : ∀ b, 0 ≤ b → b < 3 → ar' 37 b = (if b < nb then ar 37 b + s b else ar 37 b) ∧ ar' 38 b = (if b < nb then ar 38 b + g b else ar 38 b)) (e4 : ∀ k, 0 ≤ k → k < 120 → ar' 39 k = up3 ((dN D + 1) % 40 * 3) nb s (ar 39) k ∧ ar' 40 k = up3 ((dN D + 1) % 40 * 3) nb g (ar 40) k) : NtX (nst nb s g D) sc' ar' := by
  obtain ⟨h1, h2, h3, h4⟩ := h
  obtain ⟨o1, o2, o3, o4⟩ := hO
  refine ⟨e1, e2, fun b b0 b1 => ?_, fun i b i0 i1 b0 b1 => ?_⟩
  · rw [(e3 b b0 b1).1, (e3 b b0 b1).2, (h3 b b0 b1).1, (h3 b b0 b1).2]; exact ⟨rfl, rfl⟩
  · have i1' : i < min (dU D + 1) 40 := i1
    show ar' 39 ((dN D + 1 - i) % 40 * 3 + b) = (if i = 0 then (if b < nb then s b else 0) else dHs D (i - 1) b) ∧ ar' 40 ((dN D + 1 - i) % 40 * 3 + b) = (if i = 0 then (if b < nb then g b else 0) else dHg D (i - 1) b)
    rw [(e4 _ (by omega) (by omega)).1, (e4 _ (by omega) (by omega)).2]
    unfold up3
    by_cases e : i = 0
    · subst e
      refine ⟨?_, ?_⟩ <;> rw [if_pos (c := (0 : Int) = 0) rfl, if_pos (c := (dN D + 1) % 40 * 3 ≤ (dN D + 1 - 0) % 40 * 3 + b ∧ (dN D + 1 - 0) % 40 * 3 + b < (dN D + 1) % 40 * 3 + 3) (by omega), show (dN D + 1 - 0) % 40 * 3 + b - (dN D + 1) % 40 * 3 = b by omega]
    · rw [if_neg e, if_neg e, if_neg (by omega), if_neg (by omega), show dN D + 1 - i = dN D - (i - 1) by omega]
      exact h4 (i - 1) b (by omega) (by omega) b0 b1
theorem NtM.st {nb : Int} {D : SD} {sc sc' : Nat → Int} {ar ar' : Nat → Int → Int} {s g : Int → Int} {u : Int} {h1 h2 : Int → Int} (hb : 0 ≤ nb ∧ nb ≤ 3) (hO : NtOK nb D) (h : NtM nb D sc ar) (hu : u = min (dU D) 39) (hh : ∀ k, 0 ≤ k → k < 117 → h1 k = (if dU D = 40 then ar 114 (k + 3) else ar 114 k) ∧ h2 k = (if dU D = 40 then ar 115 (k + 3) else ar 115 k)) (e1 : sc' 8032 = dN D + 1) (e2 : sc' 8059 = u + 1) (e3 : ∀ b, 0 ≤ b → b < 3 → ar' 92 b = (if b < nb then ar 92 b + s b else ar 92 b) ∧ ar' 93 b = (if b < nb then ar 93 b + g b else ar 93 b)) (e4 : ∀ k, 0 ≤ k → k < 120 → ar' 114 k = (if 3 * u ≤ k ∧ k < 3 * u + nb then s (k - 3 * u) else h1 k) ∧ ar' 115 k = (if 3 * u ≤ k ∧ k < 3 * u + nb then g (k - 3 * u) else h2 k)) : NtM nb (nst nb s g D) sc' ar' := by
  obtain ⟨k1, k2, k3, k4⟩ := h
  obtain ⟨o1, o2, o3, o4⟩ := hO
  refine ⟨e1, ?_, fun b b0 b1 => ?_, fun i b i0 i1 b0 b1 => ?_⟩
  · show sc' 8059 = min (dU D + 1) 40; omega
  · rw [(e3 b b0 b1).1, (e3 b b0 b1).2, (k3 b b0 b1).1, (k3 b b0 b1).2]; exact ⟨rfl, rfl⟩
  · have i1' : i < min (dU D + 1) 40 := i1
    show ar' 114 (3 * (min (dU D + 1) 40 - 1 - i) + b) = (if i = 0 then (if b < nb then s b else 0) else dHs D (i - 1) b) ∧ ar' 115 (3 * (min (dU D + 1) 40 - 1 - i) + b) = (if i = 0 then (if b < nb then g b else 0) else dHg D (i - 1) b)
    rw [(e4 _ (by omega) (by omega)).1, (e4 _ (by omega) (by omega)).2]
    by_cases e : i = 0
    · subst e
      refine ⟨?_, ?_⟩ <;> rw [if_pos (c := (0 : Int) = 0) rfl, if_pos (c := 3 * u ≤ 3 * (min (dU D + 1) 40 - 1 - 0) + b ∧ 3 * (min (dU D + 1) 40 - 1 - 0) + b < 3 * u + nb) (by omega), if_pos (c := b < nb) b1, show 3 * (min (dU D + 1) 40 - 1 - 0) + b - 3 * u = b by omega]
    · rw [if_neg e, if_neg e, if_neg (by omega), if_neg (by omega), (hh _ (by omega) (by omega)).1, (hh _ (by omega) (by omega)).2]
      by_cases e5 : dU D = 40
      · rw [if_pos e5, if_pos e5, show 3 * (min (dU D + 1) 40 - 1 - i) + b + 3 = 3 * (dU D - 1 - (i - 1)) + b by omega]
        exact k4 (i - 1) b (by omega) (by omega) b0 b1
      · rw [if_neg e5, if_neg e5, show 3 * (min (dU D + 1) 40 - 1 - i) + b = 3 * (dU D - 1 - (i - 1)) + b by omega]
        exact k4 (i - 1) b (by omega) (by omega) b0 b1
theorem NtX.un {nb : Int} {D : SD} {sc sc' : Nat → Int} {ar ar' : Nat → Int → Int} (hO : NtOK nb D) (hu : 0 < dU D) (h : NtX D sc ar) (e1 : sc' 3106 = dN D - 1) (e2 : sc' 3107 = dU D - 1) (e3 : ∀ b, 0 ≤ b → b < 3 → ar' 37 b = ar 37 b - ar 39 (dN D % 40 * 3 + b) ∧ ar' 38 b = ar 38 b - ar 40 (dN D % 40 * 3 + b)) (e4 : ar' 39 = ar 39) (e5 : ar' 40 = ar 40) : NtX (nun D) sc' ar' := by
  obtain ⟨h1, h2, h3, h4⟩ := h
  refine ⟨e1, e2, fun b b0 b1 => ?_, fun i b i0 i1 b0 b1 => ?_⟩
  · have h5 := h4 0 b (by omega) hu b0 b1
    rw [show dN D - 0 = dN D by omega] at h5
    rw [(e3 b b0 b1).1, (e3 b b0 b1).2, (h3 b b0 b1).1, (h3 b b0 b1).2, h5.1, h5.2]; exact ⟨rfl, rfl⟩
  · have i1' : i < dU D - 1 := i1
    show ar' 39 ((dN D - 1 - i) % 40 * 3 + b) = dHs D (i + 1) b ∧ ar' 40 ((dN D - 1 - i) % 40 * 3 + b) = dHg D (i + 1) b
    rw [e4, e5, show dN D - 1 - i = dN D - (i + 1) by omega]
    exact h4 (i + 1) b (by omega) (by omega) b0 b1
theorem NtM.un {nb : Int} {D : SD} {sc sc' : Nat → Int} {ar ar' : Nat → Int → Int} (hb : 0 ≤ nb ∧ nb ≤ 3) (hO : NtOK nb D) (hu : 0 < dU D) (h : NtM nb D sc ar) (e1 : sc' 8032 = dN D - 1) (e2 : sc' 8059 = dU D - 1) (e3 : ∀ b, 0 ≤ b → b < 3 → ar' 92 b = (if b < nb then ar 92 b - ar 114 (3 * (dU D - 1) + b) else ar 92 b) ∧ ar' 93 b = (if b < nb then ar 93 b - ar 115 (3 * (dU D - 1) + b) else ar 93 b)) (e4 : ar' 114 = ar 114) (e5 : ar' 115 = ar 115) : NtM nb (nun D) sc' ar' := by
  obtain ⟨h1, h2, h3, h4⟩ := h
  refine ⟨e1, e2, fun b b0 b1 => ?_, fun i b i0 i1 b0 b1 => ?_⟩
  · show ar' 92 b = dS D b - dHs D 0 b ∧ ar' 93 b = dG D b - dHg D 0 b
    rw [(e3 b b0 b1).1, (e3 b b0 b1).2, (h3 b b0 b1).1, (h3 b b0 b1).2]
    by_cases e : b < nb
    · have h5 := h4 0 b (by omega) hu b0 e
      rw [show dU D - 1 - 0 = dU D - 1 by omega] at h5
      rw [if_pos e, if_pos e, h5.1, h5.2]; exact ⟨rfl, rfl⟩
    · have h6 := hO.2.2.2 0 b (by omega)
      rw [if_neg e, if_neg e, h6.1, h6.2]; omega
  · have i1' : i < dU D - 1 := i1
    show ar' 114 (3 * (dU D - 1 - 1 - i) + b) = dHs D (i + 1) b ∧ ar' 115 (3 * (dU D - 1 - 1 - i) + b) = dHg D (i + 1) b
    rw [e4, e5, show dU D - 1 - 1 - i = dU D - 1 - (i + 1) by omega]
    exact h4 (i + 1) b (by omega) (by omega) b0 b1
theorem x_latest {K : PK} {d : Nat} {sc : Nat → Int} {ar : Nat → Int → Int} {tx oc : Nat} {rl : Nat → Option Nat} {ou : Nat → Int64} {tl : List PO} {q : Nat × Nat} {b : Int} (hn : 0 ≤ sc 3106 ∧ sc 3106 < 2147483647) : CallR K (d + 2) 99 [.ref 31, .int (iI b)] (HW sc ar tx oc rl ou tl, q) (some (.int (iI (sc 3106 % 40 * 3 + b)))) (HW sc ar tx oc rl ou tl, q) := by
  apply CQ.x
  refine CQ.of (own := 8) (n := 2) (ini := false) (rt := (some .int)) (cd := cd99) (by decide +kernel) rfl (by decide +kernel) rfl (Nat.le_of_ble_eq_true rfl) ?_
  refine RQ.seg 3 (pc' := 6) (L' := [some (.ref 31), some (.int (iI b))]) (st' := [.int (iI 40), .int (iI (sc 3106))]) (g1 := (HW sc ar tx oc rl ou tl, q)) rfl ?_
  refine RQ.call rfl rfl (x_fmod (a := sc 3106) (by omega)) ?_
  refine RQ.seg 4 (pc' := 13) (L' := [some (.ref 31), some (.int (iI b))]) (st' := [.int (((iI ((sc 3106) % 40)) * (iI 3)) + (iI b))]) (g1 := (HW sc ar tx oc rl ou tl, q)) rfl ?_
  refine RQ.to (L' := [some (.ref 31), some (.int (iI b))]) (st' := [.int (iI (((sc 3106) % 40) * 3 + b))]) rfl (by simp only [iI_add, iI_sub, iI_mul, iI_neg]) ?_
  refine RQ.ret rfl rfl ?_
  exact ⟨rfl, rfl⟩
theorem x_open {K : PK} {d : Nat} {sc : Nat → Int} {ar : Nat → Int → Int} {tx oc : Nat} {rl : Nat → Option Nat} {ou : Nat → Int64} {tl : List PO} {q : Nat × Nat} (hn : 0 ≤ sc 3106 ∧ sc 3106 < 1000000) (hu : 0 ≤ sc 3107 ∧ sc 3107 ≤ 40) : CQ K (d + 3) 96 [.ref 31] (HW sc ar tx oc rl ou tl, q) (fun r g' => r = none ∧ ∃ f g, g' = (HW (usc (usc sc 3106 (sc 3106 + 1)) 3107 (min (sc 3107 + 1) 40)) (usc (usc ar 39 f) 40 g) tx oc rl ou tl, q) ∧ ∀ k, 0 ≤ k → k < 120 → f k = up3 ((sc 3106 + 1) % 40 * 3) 0 (fun _ => 0) (ar 39) k ∧ g k = up3 ((sc 3106 + 1) % 40 * 3) 0 (fun _ => 0) (ar 40) k) := by
  refine CQ.of (own := 8) (n := 2) (ini := false) (rt := none) (cd := cd96) (by decide +kernel) rfl (by decide +kernel) rfl (Nat.le_of_ble_eq_true rfl) ?_
  refine RQ.seg 5 (pc' := 7) (L' := [some (.ref 31), none]) (st' := [.int ((iI (sc 3106)) + (iI 1)), .ref 31]) (g1 := (HW sc ar tx oc rl ou tl, q)) rfl ?_
  refine RQ.to (L' := [some (.ref 31), none]) (st' := [.int (iI (sc 3106 + 1)), .ref 31]) rfl (by simp only [iI_add, iI_sub, iI_mul, iI_neg]) ?_
  refine RQ.seg 7 (pc' := 19) (L' := [some (.ref 31), none]) (st' := [.int (iI 40), .int ((iI (sc 3107)) + (iI 1)), .ref 31]) (g1 := (HW (usc sc 3106 (sc 3106 + 1)) ar tx oc rl ou tl, q)) rfl ?_
  refine RQ.to (L' := [some (.ref 31), none]) (st' := [.int (iI 40), .int (iI (sc 3107 + 1)), .ref 31]) rfl (by simp only [iI_add, iI_sub, iI_mul, iI_neg]) ?_
  refine RQ.call rfl rfl (x_min (a := (sc 3107 + 1)) (b := 40) (by omega) (by omega)) ?_
  refine RQ.seg 10 (pc' := 38) (L' := [some (.ref 31), some (.int (iI 0))]) (st' := [.int (iI 0), .ref 31, .ref 39]) (g1 := (HW (usc (usc sc 3106 (sc 3106 + 1)) 3107 (min (sc 3107 + 1) 40)) ar tx oc rl ou tl, q)) rfl ?_
  refine RQ.call rfl rfl (x_latest (sc := usc (usc sc 3106 (sc 3106 + 1)) 3107 (min (sc 3107 + 1) 40)) (ar := ar) (b := 0) (by show 0 ≤ sc 3106 + 1 ∧ sc 3106 + 1 < 2147483647; omega)) ?_
  refine RQ.seg 1 (pc' := 42) (L' := [some (.ref 31), some (.int (iI 0))]) (st' := [.int (iI 0), .int (iI ((sc 3106 + 1) % 40 * 3 + 0)), .ref 39]) (g1 := (HW (usc (usc sc 3106 (sc 3106 + 1)) 3107 (min (sc 3107 + 1) 40)) ar tx oc rl ou tl, q)) rfl ?_
  refine RQ.iast (z := ((sc 3106 + 1) % 40 * 3 + 0)) (v := 0) (g1 := (HW (usc (usc sc 3106 (sc 3106 + 1)) 3107 (min (sc 3107 + 1) 40)) (usc ar 39 (usz (ar 39) ((sc 3106 + 1) % 40 * 3 + 0) 0)) tx oc rl ou tl, q)) rfl rfl rfl rfl (by omega) (by decide) (HWa_39 rfl) ?_
  refine RQ.seg 4 (pc' := 49) (L' := [some (.ref 31), some (.int (iI 0))]) (st' := [.int (iI 0), .ref 31, .ref 40]) (g1 := (HW (usc (usc sc 3106 (sc 3106 + 1)) 3107 (min (sc 3107 + 1) 40)) (usc ar 39 (usz (ar 39) ((sc 3106 + 1) % 40 * 3 + 0) 0)) tx oc rl ou tl, q)) rfl ?_
  refine RQ.call rfl rfl (x_latest (sc := usc (usc sc 3106 (sc 3106 + 1)) 3107 (min (sc 3107 + 1) 40)) (ar := usc ar 39 (usz (ar 39) ((sc 3106 + 1) % 40 * 3 + 0) 0)) (b := 0) (by show 0 ≤ sc 3106 + 1 ∧ sc 3106 + 1 < 2147483647; omega)) ?_
  refine RQ.seg 1 (pc' := 53) (L' := [some (.ref 31), some (.int (iI 0))]) (st' := [.int (iI 0), .int (iI ((sc 3106 + 1) % 40 * 3 + 0)), .ref 40]) (g1 := (HW (usc (usc sc 3106 (sc 3106 + 1)) 3107 (min (sc 3107 + 1) 40)) (usc ar 39 (usz (ar 39) ((sc 3106 + 1) % 40 * 3 + 0) 0)) tx oc rl ou tl, q)) rfl ?_
  refine RQ.iast (z := ((sc 3106 + 1) % 40 * 3 + 0)) (v := 0) (g1 := (HW (usc (usc sc 3106 (sc 3106 + 1)) 3107 (min (sc 3107 + 1) 40)) (usc (usc ar 39 (usz (ar 39) ((sc 3106 + 1) % 40 * 3 + 0) 0)) 40 (usz (ar 40) ((sc 3106 + 1) % 40 * 3 + 0) 0)) tx oc rl ou tl, q)) rfl rfl rfl rfl (by omega) (by decide) (HWa_40 rfl) ?_
  refine RQ.seg 9 (pc' := 38) (L' := [some (.ref 31), some (.int (iI 1))]) (st' := [.int (iI 1), .ref 31, .ref 39]) (g1 := (HW (usc (usc sc 3106 (sc 3106 + 1)) 3107 (min (sc 3107 + 1) 40)) (usc (usc ar 39 (usz (ar 39) ((sc 3106 + 1) % 40 * 3 + 0) 0)) 40 (usz (ar 40) ((sc 3106 + 1) % 40 * 3 + 0) 0)) tx oc rl ou tl, q)) rfl ?_
  refine RQ.call rfl rfl (x_latest (sc := usc (usc sc 3106 (sc 3106 + 1)) 3107 (min (sc 3107 + 1) 40)) (ar := usc (usc ar 39 (usz (ar 39) ((sc 3106 + 1) % 40 * 3 + 0) 0)) 40 (usz (ar 40) ((sc 3106 + 1) % 40 * 3 + 0) 0)) (b := 1) (by show 0 ≤ sc 3106 + 1 ∧ sc 3106 + 1 < 2147483647; omega)) ?_
  refine RQ.seg 1 (pc' := 42) (L' := [some (.ref 31), some (.int (iI 1))]) (st' := [.int (iI 0), .int (iI ((sc 3106 + 1) % 40 * 3 + 1)), .ref 39]) (g1 := (HW (usc (usc sc 3106 (sc 3106 + 1)) 3107 (min (sc 3107 + 1) 40)) (usc (usc ar 39 (usz (ar 39) ((sc 3106 + 1) % 40 * 3 + 0) 0)) 40 (usz (ar 40) ((sc 3106 + 1) % 40 * 3 + 0) 0)) tx oc rl ou tl, q)) rfl ?_
  refine RQ.iast (z := ((sc 3106 + 1) % 40 * 3 + 1)) (v := 0) (g1 := (HW (usc (usc sc 3106 (sc 3106 + 1)) 3107 (min (sc 3107 + 1) 40)) (usc (usc ar 39 (usz (usz (ar 39) ((sc 3106 + 1) % 40 * 3 + 0) 0) ((sc 3106 + 1) % 40 * 3 + 1) 0)) 40 (usz (ar 40) ((sc 3106 + 1) % 40 * 3 + 0) 0)) tx oc rl ou tl, q)) rfl rfl rfl rfl (by omega) (by decide) (HWa_39 (by funext j; unfold usc; cases hb : Nat.beq j 39 <;> first | rfl | (rw [Nat.eq_of_beq_eq_true hb]; rfl))) ?_
  refine RQ.seg 4 (pc' := 49) (L' := [some (.ref 31), some (.int (iI 1))]) (st' := [.int (iI 1), .ref 31, .ref 40]) (g1 := (HW (usc (usc sc 3106 (sc 3106 + 1)) 3107 (min (sc 3107 + 1) 40)) (usc (usc ar 39 (usz (usz (ar 39) ((sc 3106 + 1) % 40 * 3 + 0) 0) ((sc 3106 + 1) % 40 * 3 + 1) 0)) 40 (usz (ar 40) ((sc 3106 + 1) % 40 * 3 + 0) 0)) tx oc rl ou tl, q)) rfl ?_
  refine RQ.call rfl rfl (x_latest (sc := usc (usc sc 3106 (sc 3106 + 1)) 3107 (min (sc 3107 + 1) 40)) (ar := usc (usc ar 39 (usz (usz (ar 39) ((sc 3106 + 1) % 40 * 3 + 0) 0) ((sc 3106 + 1) % 40 * 3 + 1) 0)) 40 (usz (ar 40) ((sc 3106 + 1) % 40 * 3 + 0) 0)) (b := 1) (by show 0 ≤ sc 3106 + 1 ∧ sc 3106 + 1 < 2147483647; omega)) ?_
  refine RQ.seg 1 (pc' := 53) (L' := [some (.ref 31), some (.int (iI 1))]) (st' := [.int (iI 0), .int (iI ((sc 3106 + 1) % 40 * 3 + 1)), .ref 40]) (g1 := (HW (usc (usc sc 3106 (sc 3106 + 1)) 3107 (min (sc 3107 + 1) 40)) (usc (usc ar 39 (usz (usz (ar 39) ((sc 3106 + 1) % 40 * 3 + 0) 0) ((sc 3106 + 1) % 40 * 3 + 1) 0)) 40 (usz (ar 40) ((sc 3106 + 1) % 40 * 3 + 0) 0)) tx oc rl ou tl, q)) rfl ?_
  refine RQ.iast (z := ((sc 3106 + 1) % 40 * 3 + 1)) (v := 0) (g1 := (HW (usc (usc sc 3106 (sc 3106 + 1)) 3107 (min (sc 3107 + 1) 40)) (usc (usc ar 39 (usz (usz (ar 39) ((sc 3106 + 1) % 40 * 3 + 0) 0) ((sc 3106 + 1) % 40 * 3 + 1) 0)) 40 (usz (usz (ar 40) ((sc 3106 + 1) % 40 * 3 + 0) 0) ((sc 3106 + 1) % 40 * 3 + 1) 0)) tx oc rl ou tl, q)) rfl rfl rfl rfl (by omega) (by decide) (HWa_40 (by funext j; unfold usc; cases hb : Nat.beq j 40 <;> first | rfl | (rw [Nat.eq_of_beq_eq_true hb]; rfl))) ?_
  refine RQ.seg 9 (pc' := 38) (L' := [some (.ref 31), some (.int (iI 2))]) (st' := [.int (iI 2), .ref 31, .ref 39]) (g1 := (HW (usc (usc sc 3106 (sc 3106 + 1)) 3107 (min (sc 3107 + 1) 40)) (usc (usc ar 39 (usz (usz (ar 39) ((sc 3106 + 1) % 40 * 3 + 0) 0) ((sc 3106 + 1) % 40 * 3 + 1) 0)) 40 (usz (usz (ar 40) ((sc 3106 + 1) % 40 * 3 + 0) 0) ((sc 3106 + 1) % 40 * 3 + 1) 0)) tx oc rl ou tl, q)) rfl ?_
  refine RQ.call rfl rfl (x_latest (sc := usc (usc sc 3106 (sc 3106 + 1)) 3107 (min (sc 3107 + 1) 40)) (ar := usc (usc ar 39 (usz (usz (ar 39) ((sc 3106 + 1) % 40 * 3 + 0) 0) ((sc 3106 + 1) % 40 * 3 + 1) 0)) 40 (usz (usz (ar 40) ((sc 3106 + 1) % 40 * 3 + 0) 0) ((sc 3106 + 1) % 40 * 3 + 1) 0)) (b := 2) (by show 0 ≤ sc 3106 + 1 ∧ sc 3106 + 1 < 2147483647; omega)) ?_
  refine RQ.seg 1 (pc' := 42) (L' := [some (.ref 31), some (.int (iI 2))]) (st' := [.int (iI 0), .int (iI ((sc 3106 + 1) % 40 * 3 + 2)), .ref 39]) (g1 := (HW (usc (usc sc 3106 (sc 3106 + 1)) 3107 (min (sc 3107 + 1) 40)) (usc (usc ar 39 (usz (usz (ar 39) ((sc 3106 + 1) % 40 * 3 + 0) 0) ((sc 3106 + 1) % 40 * 3 + 1) 0)) 40 (usz (usz (ar 40) ((sc 3106 + 1) % 40 * 3 + 0) 0) ((sc 3106 + 1) % 40 * 3 + 1) 0)) tx oc rl ou tl, q)) rfl ?_
  refine RQ.iast (z := ((sc 3106 + 1) % 40 * 3 + 2)) (v := 0) (g1 := (HW (usc (usc sc 3106 (sc 3106 + 1)) 3107 (min (sc 3107 + 1) 40)) (usc (usc ar 39 (usz (usz (usz (ar 39) ((sc 3106 + 1) % 40 * 3 + 0) 0) ((sc 3106 + 1) % 40 * 3 + 1) 0) ((sc 3106 + 1) % 40 * 3 + 2) 0)) 40 (usz (usz (ar 40) ((sc 3106 + 1) % 40 * 3 + 0) 0) ((sc 3106 + 1) % 40 * 3 + 1) 0)) tx oc rl ou tl, q)) rfl rfl rfl rfl (by omega) (by decide) (HWa_39 (by funext j; unfold usc; cases hb : Nat.beq j 39 <;> first | rfl | (rw [Nat.eq_of_beq_eq_true hb]; rfl))) ?_
  refine RQ.seg 4 (pc' := 49) (L' := [some (.ref 31), some (.int (iI 2))]) (st' := [.int (iI 2), .ref 31, .ref 40]) (g1 := (HW (usc (usc sc 3106 (sc 3106 + 1)) 3107 (min (sc 3107 + 1) 40)) (usc (usc ar 39 (usz (usz (usz (ar 39) ((sc 3106 + 1) % 40 * 3 + 0) 0) ((sc 3106 + 1) % 40 * 3 + 1) 0) ((sc 3106 + 1) % 40 * 3 + 2) 0)) 40 (usz (usz (ar 40) ((sc 3106 + 1) % 40 * 3 + 0) 0) ((sc 3106 + 1) % 40 * 3 + 1) 0)) tx oc rl ou tl, q)) rfl ?_
  refine RQ.call rfl rfl (x_latest (sc := usc (usc sc 3106 (sc 3106 + 1)) 3107 (min (sc 3107 + 1) 40)) (ar := usc (usc ar 39 (usz (usz (usz (ar 39) ((sc 3106 + 1) % 40 * 3 + 0) 0) ((sc 3106 + 1) % 40 * 3 + 1) 0) ((sc 3106 + 1) % 40 * 3 + 2) 0)) 40 (usz (usz (ar 40) ((sc 3106 + 1) % 40 * 3 + 0) 0) ((sc 3106 + 1) % 40 * 3 + 1) 0)) (b := 2) (by show 0 ≤ sc 3106 + 1 ∧ sc 3106 + 1 < 2147483647; omega)) ?_
  refine RQ.seg 1 (pc' := 53) (L' := [some (.ref 31), some (.int (iI 2))]) (st' := [.int (iI 0), .int (iI ((sc 3106 + 1) % 40 * 3 + 2)), .ref 40]) (g1 := (HW (usc (usc sc 3106 (sc 3106 + 1)) 3107 (min (sc 3107 + 1) 40)) (usc (usc ar 39 (usz (usz (usz (ar 39) ((sc 3106 + 1) % 40 * 3 + 0) 0) ((sc 3106 + 1) % 40 * 3 + 1) 0) ((sc 3106 + 1) % 40 * 3 + 2) 0)) 40 (usz (usz (ar 40) ((sc 3106 + 1) % 40 * 3 + 0) 0) ((sc 3106 + 1) % 40 * 3 + 1) 0)) tx oc rl ou tl, q)) rfl ?_
  refine RQ.iast (z := ((sc 3106 + 1) % 40 * 3 + 2)) (v := 0) (g1 := (HW (usc (usc sc 3106 (sc 3106 + 1)) 3107 (min (sc 3107 + 1) 40)) (usc (usc ar 39 (usz (usz (usz (ar 39) ((sc 3106 + 1) % 40 * 3 + 0) 0) ((sc 3106 + 1) % 40 * 3 + 1) 0) ((sc 3106 + 1) % 40 * 3 + 2) 0)) 40 (usz (usz (usz (ar 40) ((sc 3106 + 1) % 40 * 3 + 0) 0) ((sc 3106 + 1) % 40 * 3 + 1) 0) ((sc 3106 + 1) % 40 * 3 + 2) 0)) tx oc rl ou tl, q)) rfl rfl rfl rfl (by omega) (by decide) (HWa_40 (by funext j; unfold usc; cases hb : Nat.beq j 40 <;> first | rfl | (rw [Nat.eq_of_beq_eq_true hb]; rfl))) ?_
  refine RQ.seg 5 (pc' := 60) (L' := [some (.ref 31), some (.int (iI 3))]) (st' := []) (g1 := (HW (usc (usc sc 3106 (sc 3106 + 1)) 3107 (min (sc 3107 + 1) 40)) (usc (usc ar 39 (usz (usz (usz (ar 39) ((sc 3106 + 1) % 40 * 3 + 0) 0) ((sc 3106 + 1) % 40 * 3 + 1) 0) ((sc 3106 + 1) % 40 * 3 + 2) 0)) 40 (usz (usz (usz (ar 40) ((sc 3106 + 1) % 40 * 3 + 0) 0) ((sc 3106 + 1) % 40 * 3 + 1) 0) ((sc 3106 + 1) % 40 * 3 + 2) 0)) tx oc rl ou tl, q)) rfl ?_
  refine RQ.ret rfl rfl ?_
  refine ⟨rfl, _, _, rfl, fun k h0 h1 => ⟨?_, ?_⟩⟩
  · show usz (usz (usz _ (((sc 3106 + 1) % 40 * 3) + 0) 0) (((sc 3106 + 1) % 40 * 3) + 1) 0) (((sc 3106 + 1) % 40 * 3) + 2) 0 k = _; unfold up3 usz; (repeat (split)) <;> first | rfl | omega
  · show usz (usz (usz _ (((sc 3106 + 1) % 40 * 3) + 0) 0) (((sc 3106 + 1) % 40 * 3) + 1) 0) (((sc 3106 + 1) % 40 * 3) + 2) 0 k = _; unfold up3 usz; (repeat (split)) <;> first | rfl | omega
theorem x_addN {K : PK} {d : Nat} {sc : Nat → Int} {ar : Nat → Int → Int} {tx oc : Nat} {rl : Nat → Option Nat} {ou : Nat → Int64} {tl : List PO} {q : Nat × Nat} {b s g : Int} (hn : 0 ≤ sc 3106 ∧ sc 3106 < 2147483647) (hb : 0 ≤ b ∧ b < 3) : CallR K (d + 3) 97 [.ref 31, .int (iI b), .int (iI s), .int (iI g)] (HW sc ar tx oc rl ou tl, q) none (HW sc (usc (usc (usc (usc ar 37 (usz (ar 37) b (ar 37 b + s))) 38 (usz (ar 38) b (ar 38 b + g))) 39 (usz (ar 39) (sc 3106 % 40 * 3 + b) s)) 40 (usz (ar 40) (sc 3106 % 40 * 3 + b) g)) tx oc rl ou tl, q) := by
  apply CQ.x
  refine CQ.of (own := 8) (n := 4) (ini := false) (rt := none) (cd := cd97) (by decide +kernel) rfl (by decide +kernel) rfl (Nat.le_of_ble_eq_true rfl) ?_
  refine RQ.seg 4 (pc' := 6) (L' := [some (.ref 31), some (.int (iI b)), some (.int (iI s)), some (.int (iI g))]) (st' := [.int (iI b), .ref 31, .ref 39]) (g1 := (HW sc ar tx oc rl ou tl, q)) rfl ?_
  refine RQ.call rfl rfl (x_latest (sc := sc) (ar := ar) (b := b) (by show 0 ≤ sc 3106 ∧ sc 3106 < 2147483647; omega)) ?_
  refine RQ.seg 1 (pc' := 10) (L' := [some (.ref 31), some (.int (iI b)), some (.int (iI s)), some (.int (iI g))]) (st' := [.int (iI s), .int (iI ((sc 3106) % 40 * 3 + b)), .ref 39]) (g1 := (HW sc ar tx oc rl ou tl, q)) rfl ?_
  refine RQ.iast (z := ((sc 3106) % 40 * 3 + b)) (v := s) (g1 := (HW sc (usc ar 39 (usz (ar 39) ((sc 3106) % 40 * 3 + b) s)) tx oc rl ou tl, q)) rfl rfl rfl rfl (by omega) (by decide) (HWa_39 rfl) ?_
  refine RQ.seg 4 (pc' := 17) (L' := [some (.ref 31), some (.int (iI b)), some (.int (iI s)), some (.int (iI g))]) (st' := [.int (iI b), .ref 31, .ref 40]) (g1 := (HW sc (usc ar 39 (usz (ar 39) ((sc 3106) % 40 * 3 + b) s)) tx oc rl ou tl, q)) rfl ?_
  refine RQ.call rfl rfl (x_latest (sc := sc) (ar := usc ar 39 (usz (ar 39) ((sc 3106) % 40 * 3 + b) s)) (b := b) (by show 0 ≤ sc 3106 ∧ sc 3106 < 2147483647; omega)) ?_
  refine RQ.seg 1 (pc' := 21) (L' := [some (.ref 31), some (.int (iI b)), some (.int (iI s)), some (.int (iI g))]) (st' := [.int (iI g), .int (iI ((sc 3106) % 40 * 3 + b)), .ref 40]) (g1 := (HW sc (usc ar 39 (usz (ar 39) ((sc 3106) % 40 * 3 + b) s)) tx oc rl ou tl, q)) rfl ?_
  refine RQ.iast (z := ((sc 3106) % 40 * 3 + b)) (v := g) (g1 := (HW sc (usc (usc ar 39 (usz (ar 39) ((sc 3106) % 40 * 3 + b) s)) 40 (usz (ar 40) ((sc 3106) % 40 * 3 + b) g)) tx oc rl ou tl, q)) rfl rfl rfl rfl (by omega) (by decide) (HWa_40 rfl) ?_
  refine RQ.seg 4 (pc' := 28) (L' := [some (.ref 31), some (.int (iI b)), some (.int (iI s)), some (.int (iI g))]) (st' := [.int (iI b), .ref 37, .int (iI b), .ref 37]) (g1 := (HW sc (usc (usc ar 39 (usz (ar 39) ((sc 3106) % 40 * 3 + b) s)) 40 (usz (ar 40) ((sc 3106) % 40 * 3 + b) g)) tx oc rl ou tl, q)) rfl ?_
  refine RQ.iald (z := b) rfl rfl rfl (by omega) (by decide) ?_
  refine RQ.seg 2 (pc' := 31) (L' := [some (.ref 31), some (.int (iI b)), some (.int (iI s)), some (.int (iI g))]) (st' := [.int ((iI ((ar 37) b)) + (iI s)), .int (iI b), .ref 37]) (g1 := (HW sc (usc (usc ar 39 (usz (ar 39) ((sc 3106) % 40 * 3 + b) s)) 40 (usz (ar 40) ((sc 3106) % 40 * 3 + b) g)) tx oc rl ou tl, q)) rfl ?_
  refine RQ.iast (z := b) (v := ((ar 37) b + s)) (g1 := (HW sc (usc (usc (usc ar 37 (usz (ar 37) b ((ar 37) b + s))) 39 (usz (ar 39) ((sc 3106) % 40 * 3 + b) s)) 40 (usz (ar 40) ((sc 3106) % 40 * 3 + b) g)) tx oc rl ou tl, q)) rfl rfl (by simp only [iI_add, iI_sub, iI_mul, iI_neg]) rfl (by omega) (by decide) (HWa_37 (by funext j; unfold usc; cases hb : Nat.beq j 37 <;> first | rfl | (rw [Nat.eq_of_beq_eq_true hb]; rfl))) ?_
  refine RQ.seg 4 (pc' := 38) (L' := [some (.ref 31), some (.int (iI b)), some (.int (iI s)), some (.int (iI g))]) (st' := [.int (iI b), .ref 38, .int (iI b), .ref 38]) (g1 := (HW sc (usc (usc (usc ar 37 (usz (ar 37) b ((ar 37) b + s))) 39 (usz (ar 39) ((sc 3106) % 40 * 3 + b) s)) 40 (usz (ar 40) ((sc 3106) % 40 * 3 + b) g)) tx oc rl ou tl, q)) rfl ?_
  refine RQ.iald (z := b) rfl rfl rfl (by omega) (by decide) ?_
  refine RQ.seg 2 (pc' := 41) (L' := [some (.ref 31), some (.int (iI b)), some (.int (iI s)), some (.int (iI g))]) (st' := [.int ((iI ((ar 38) b)) + (iI g)), .int (iI b), .ref 38]) (g1 := (HW sc (usc (usc (usc ar 37 (usz (ar 37) b ((ar 37) b + s))) 39 (usz (ar 39) ((sc 3106) % 40 * 3 + b) s)) 40 (usz (ar 40) ((sc 3106) % 40 * 3 + b) g)) tx oc rl ou tl, q)) rfl ?_
  refine RQ.iast (z := b) (v := ((ar 38) b + g)) (g1 := (HW sc (usc (usc (usc (usc ar 37 (usz (ar 37) b ((ar 37) b + s))) 38 (usz (ar 38) b ((ar 38) b + g))) 39 (usz (ar 39) ((sc 3106) % 40 * 3 + b) s)) 40 (usz (ar 40) ((sc 3106) % 40 * 3 + b) g)) tx oc rl ou tl, q)) rfl rfl (by simp only [iI_add, iI_sub, iI_mul, iI_neg]) rfl (by omega) (by decide) (HWa_38 (by funext j; unfold usc; cases hb : Nat.beq j 38 <;> first | rfl | (rw [Nat.eq_of_beq_eq_true hb]; rfl))) ?_
  refine RQ.ret rfl rfl ?_
  exact ⟨rfl, rfl⟩
theorem x_pb_l {sc0 : Nat → Int} {ar0 : Nat → Int → Int} {K : PK} {d : Nat} {tx oc : Nat} {rl : Nat → Option Nat} {ou : Nat → Int64} {tl : List PO} {q : Nat × Nat} {Q : Option Value → PG → Prop} {nw nb : Int} {W B : Int → Int → Int} (hF : FrOK nw nb W B) (hX : FrX (sc0 303) (sc0 304) (ar0 5) (ar0 6) (ar0 7) (ar0 8) (ar0 10) (ar0 11) (ar0 12) nw nb W B) {P : Int → Int} (hmy : PtOK nw nb W B P) (hp : PlyP nw nb W B P sc0 ar0)  {law : Int → Int} (hL : LwOK law) (hlw : ∀ j, 0 ≤ j → j < 4 → ar0 32 j = law j) {nn uu o : Int} (hnn : 0 ≤ nn ∧ nn < 2000000) (ho : ∀ b, 0 ≤ b → b < nb → gnx law (law 3) o b = gnr nw nb W B law P b) (ro : 0 ≤ o ∧ o < 16777216) (hk : ∀ sc' ar', Same nxF sc0 sc' → Same nxA ar0 ar' → sc' 3106 = nn → sc' 3107 = uu → (∀ b, 0 ≤ b → b < 3 → ar' 37 b = (if b < nb then ar0 37 b + sS (svn nb W B P) b else ar0 37 b) ∧ ar' 38 b = (if b < nb then ar0 38 b + gnr nw nb W B law P b else ar0 38 b)) → (∀ k, 0 ≤ k → k < 120 → ar' 39 k = up3 (nn % 40 * 3) nb (sS (svn nb W B P)) (ar0 39) k ∧ ar' 40 k = up3 (nn % 40 * 3) nb (gnr nw nb W B law P) (ar0 40) k) → Q none (HW sc' ar' tx oc rl ou tl, q)) : ∀ (m n : Nat) (f37 f38 f39 f40 : Int → Int) (hm : (n : Int) + m = nb) (hi : ∀ b, 0 ≤ b → b < 3 → f37 b = (if b < (n : Int) then ar0 37 b + sS (svn nb W B P) b else ar0 37 b) ∧ f38 b = (if b < (n : Int) then ar0 38 b + gnr nw nb W B law P b else ar0 38 b)) (hi2 : ∀ k, 0 ≤ k → k < 120 → f39 k = up3 (nn % 40 * 3) n (sS (svn nb W B P)) (ar0 39) k ∧ f40 k = up3 (nn % 40 * 3) n (gnr nw nb W B law P) (ar0 40) k), RQ K (d + 4) 10 false none cd144 17 [some (.ref 0), some (.int (iI o)), some (.int (iI (n : Int)))] [] (HW (usc (usc sc0 3106 nn) 3107 uu) (usc (usc (usc (usc ar0 37 f37) 38 f38) 39 f39) 40 f40) tx oc rl ou tl, q) Q
  | 0, n, f37, f38, f39, f40, hm, hi, hi2 => by
    have hn := hF.1
    have hm1 := hX.1
    have hm2 := hX.2.1
    obtain ⟨yy, hp1, hp2, hp3, hwi, hsh, hcl⟩ := id hp
    have hLL := hL
    unfold LwOK at hLL
    refine RQ.seg 4 (pc' := 25) (L' := [some (.ref 0), some (.int (iI o)), some (.int (iI (n : Int)))]) (st' := [.int (iI (sc0 304)), .int (iI (n : Int))]) (g1 := (HW (usc (usc sc0 3106 nn) 3107 uu) (usc (usc (usc (usc ar0 37 f37) 38 f38) 39 f39) 40 f40) tx oc rl ou tl, q)) rfl ?_
    refine RQ.if2 (a := (n : Int)) (b := (sc0 304)) rfl rfl rfl rfl (by omega) (by omega) (fun _ => ?_) (fun (q : ¬ sc0 304 ≤ (n : Int)) => absurd (show sc0 304 ≤ (n : Int) from by omega) q)
    refine RQ.ret rfl rfl ?_
    obtain rfl : nb = (n : Int) := by omega
    exact hk _ _ (by repeat (first | exact Same.rf | refine Same.us rfl ?_)) (by repeat (first | exact Same.rf | refine Same.us rfl ?_)) rfl rfl hi hi2
  | m + 1, n, f37, f38, f39, f40, hm, hi, hi2 => by
    have hn := hF.1
    have hm1 := hX.1
    have hm2 := hX.2.1
    obtain ⟨yy, hp1, hp2, hp3, hwi, hsh, hcl⟩ := id hp
    have hLL := hL
    unfold LwOK at hLL
    refine RQ.seg 4 (pc' := 25) (L' := [some (.ref 0), some (.int (iI o)), some (.int (iI (n : Int)))]) (st' := [.int (iI (sc0 304)), .int (iI (n : Int))]) (g1 := (HW (usc (usc sc0 3106 nn) 3107 uu) (usc (usc (usc (usc ar0 37 f37) 38 f38) 39 f39) 40 f40) tx oc rl ou tl, q)) rfl ?_
    refine RQ.if2 (a := (n : Int)) (b := (sc0 304)) rfl rfl rfl rfl (by omega) (by omega) (fun (q : sc0 304 ≤ (n : Int)) => absurd q (show ¬ sc0 304 ≤ (n : Int) from by omega)) (fun _ => ?_)
    refine RQ.seg 7 (pc' := 41) (L' := [some (.ref 0), some (.int (iI o)), some (.int (iI (n : Int)))]) (st' := [.int (iI (n : Int)), .ref 59, .int (iI (n : Int)), .ref 31]) (g1 := (HW (usc (usc sc0 3106 nn) 3107 uu) (usc (usc (usc (usc ar0 37 f37) 38 f38) 39 f39) 40 f40) tx oc rl ou tl, q)) rfl ?_
    refine RQ.ialdv (z := (n : Int)) (v := (sS (svn nb W B P) (n : Int))) rfl rfl rfl (by omega) (by decide) (hp3.2.2.1 (n : Int) (by omega) (by omega)) ?_
    refine RQ.seg 9 (pc' := 59) (L' := [some (.ref 0), some (.int (iI o)), some (.int (iI (n : Int)))]) (st' := [.int (iI 3), .ref 32, .ref 32, .int (iI (n : Int)), .int (iI o), .int (iI (sS (svn nb W B P) (n : Int))), .int (iI (n : Int)), .ref 31]) (g1 := (HW (usc (usc sc0 3106 nn) 3107 uu) (usc (usc (usc (usc ar0 37 f37) 38 f38) 39 f39) 40 f40) tx oc rl ou tl, q)) rfl ?_
    refine RQ.ialdv (z := 3) (v := (law 3)) rfl rfl rfl (by omega) (by decide) (hlw 3 (by omega) (by omega)) ?_
    refine RQ.call rfl rfl (CallR.up (d := 3) (x_gain (d := 0) (sc := usc (usc sc0 3106 nn) 3107 uu) (ar := usc (usc (usc (usc ar0 37 f37) 38 f38) 39 f39) 40 f40) (o := o) (b := (n : Int)) (by omega) (by omega) hlw hL (by omega)) (by omega)) ?_
    rw [ho (n : Int) (by omega) (by omega)]
    refine RQ.call rfl rfl (CallR.up (d := 3) (x_addN (d := 0) (sc := usc (usc sc0 3106 nn) 3107 uu) (ar := usc (usc (usc (usc ar0 37 f37) 38 f38) 39 f39) 40 f40) (b := (n : Int)) (s := sS (svn nb W B P) (n : Int)) (g := gnr nw nb W B law P (n : Int)) (by show 0 ≤ nn ∧ nn < 2147483647; omega) (by omega)) (by omega)) ?_
    refine RQ.hp (g1 := (HW (usc (usc sc0 3106 nn) 3107 uu) (usc (usc (usc (usc ar0 37 (usz f37 (n : Int) (f37 (n : Int) + sS (svn nb W B P) (n : Int)))) 38 (usz f38 (n : Int) (f38 (n : Int) + gnr nw nb W B law P (n : Int)))) 39 (usz f39 (nn % 40 * 3 + (n : Int)) (sS (svn nb W B P) (n : Int)))) 40 (usz f40 (nn % 40 * 3 + (n : Int)) (gnr nw nb W B law P (n : Int)))) tx oc rl ou tl, q)) (HW_e rfl (by funext j; unfold usc; by_cases j1 : j = 37; (subst j1; rfl); by_cases j2 : j = 38; (subst j2; rfl); by_cases j3 : j = 39; (subst j3; rfl); by_cases j4 : j = 40; (subst j4; rfl); (have q1 : Nat.beq j 37 = false := beqf j1; have q2 : Nat.beq j 38 = false := beqf j2; have q3 : Nat.beq j 39 = false := beqf j3; have q4 : Nat.beq j 40 = false := beqf j4; simp only [q1, q2, q3, q4, cond_false]))) ?_
    refine RQ.seg 2 (pc' := 17) (L' := [some (.ref 0), some (.int (iI o)), some (.int ((iI (n : Int)) + (iI 1)))]) (st' := []) (g1 := (HW (usc (usc sc0 3106 nn) 3107 uu) (usc (usc (usc (usc ar0 37 (usz f37 (n : Int) (f37 (n : Int) + sS (svn nb W B P) (n : Int)))) 38 (usz f38 (n : Int) (f38 (n : Int) + gnr nw nb W B law P (n : Int)))) 39 (usz f39 (nn % 40 * 3 + (n : Int)) (sS (svn nb W B P) (n : Int)))) 40 (usz f40 (nn % 40 * 3 + (n : Int)) (gnr nw nb W B law P (n : Int)))) tx oc rl ou tl, q)) rfl ?_
    refine RQ.to (L' := [some (.ref 0), some (.int (iI o)), some (.int (iI ((n : Int) + 1)))]) (st' := []) (by simp only [iI_add, iI_sub, iI_mul, iI_neg]) rfl ?_
    refine x_pb_l hF hX hmy hp hL hlw hnn ho ro hk m (n + 1) _ _ _ _ (by omega) (fun b b0 b1 => ?_) (fun k k0 k1 => ⟨?_, ?_⟩)
    · have e9 := hi b b0 b1
      by_cases e : b = (n : Int)
      · subst e; rw [if_neg (by omega), if_neg (by omega)] at e9; rw [usz_s, usz_s, if_pos (by omega), if_pos (by omega), e9.1, e9.2]; exact ⟨rfl, rfl⟩
      · rw [usz_n e, usz_n e]; by_cases e2 : b < (n : Int)
        · rw [if_pos e2, if_pos e2] at e9; rw [if_pos (by omega), if_pos (by omega)]; exact e9
        · rw [if_neg e2, if_neg e2] at e9; rw [if_neg (by omega), if_neg (by omega)]; exact e9
    · exact up3_s (by omega) (fun k h0 h1 => (hi2 k h0 h1).1) rfl ⟨k0, k1⟩
    · exact up3_s (by omega) (fun k h0 h1 => (hi2 k h0 h1).2) rfl ⟨k0, k1⟩
