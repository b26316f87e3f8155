/-! reading bytes: what both readers go by -/
def tch (tp : List Int) (p : Int) : Int := if 0 ≤ p ∧ p < (tp.length : Int) then lat tp p else 0
def skn (tp : List Int) : Nat → Int → Int
  | 0, p => p
  | m + 1, p => if p < (tp.length : Int) ∧ lat tp p = 32 then skn tp m (p + 1) else p
def sk (tp : List Int) (p : Int) : Int := skn tp ((tp.length : Int) - p).toNat p
def lk (tp : List Int) (p : Int) : Int := tch tp (sk tp p)
abbrev dig (c : Int) : Prop := 48 ≤ c ∧ c ≤ 57
theorem sk_t {tp : List Int} {p : Int} (h : p < (tp.length : Int) ∧ lat tp p = 32) : sk tp p = sk tp (p + 1) := by
  unfold sk
  obtain ⟨m, hm⟩ : ∃ m : Nat, ((tp.length : Int) - p).toNat = m + 1 := ⟨((tp.length : Int) - p).toNat - 1, by omega⟩
  rw [hm, skn, if_pos h, show ((tp.length : Int) - (p + 1)).toNat = m by omega]
theorem sk_f {tp : List Int} {p : Int} (h : ¬ (p < (tp.length : Int) ∧ lat tp p = 32)) : sk tp p = p := by
  unfold sk
  cases ((tp.length : Int) - p).toNat with
  | zero => rfl
  | succ m => rw [skn, if_neg h]
theorem skn_r {tp : List Int} : ∀ (m : Nat) (p : Int), p ≤ skn tp m p ∧ (p ≤ (tp.length : Int) → skn tp m p ≤ (tp.length : Int))
  | 0, p => ⟨Int.le_refl _, fun h => h⟩
  | m + 1, p => by
    rw [skn]
    split
    · have := skn_r (tp := tp) m (p + 1)
      exact ⟨by omega, fun h => this.2 (by omega)⟩
    · exact ⟨Int.le_refl _, fun h => h⟩
theorem sk_r {tp : List Int} {p : Int} (h : p ≤ (tp.length : Int)) : p ≤ sk tp p ∧ sk tp p ≤ (tp.length : Int) := ⟨(skn_r _ p).1, (skn_r _ p).2 h⟩
theorem tch_r {tp : List Int} (h : TpOK tp) (p : Int) : 0 ≤ tch tp p ∧ tch tp p ≤ 255 := by
  unfold tch
  split
  · rename_i hc
    have := h.2 p hc.1 hc.2
    omega
  · omega
theorem tch_in {tp : List Int} {p : Int} (h : 0 ≤ p ∧ p < (tp.length : Int)) : tch tp p = lat tp p := if_pos h
theorem tch_out {tp : List Int} {p : Int} (h : ¬ (0 ≤ p ∧ p < (tp.length : Int))) : tch tp p = 0 := if_neg h
theorem tch_pos {tp : List Int} {p : Int} (h : tch tp p ≠ 0) : 0 ≤ p ∧ p < (tp.length : Int) := by
  rcases Decidable.em (0 ≤ p ∧ p < (tp.length : Int)) with z | z
  · exact z
  · exact absurd (tch_out z) h
theorem tch_1 {tp : List Int} (ht : TpOK tp) {p : Int} (h : 0 ≤ p ∧ p < (tp.length : Int)) : 1 ≤ tch tp p := by
  rw [tch_in h]
  exact (ht.2 p h.1 h.2).1
/-- digits -/
def nmn (tp : List Int) : Nat → Int → Int → Int × Int
  | 0, p, v => (v, p)
  | m + 1, p, v => if dig (tch tp p) then nmn tp m (p + 1) (v * 10 + (tch tp p - 48)) else (v, p)
def nmR (tp : List Int) (k : Nat) (a : Int) : Int × Int × Int := if dig (tch tp (sk tp a)) then (if dig (tch tp (nmn tp k (sk tp a) 0).2) then (nmn tp k (sk tp a) 0).2 else -1, (nmn tp k (sk tp a) 0).1, (nmn tp k (sk tp a) 0).2) else (sk tp a, 0, sk tp a)
theorem nmn_r {tp : List Int} : ∀ (k : Nat) (p v : Int), (0 ≤ p ∧ p ≤ (tp.length : Int)) → 0 ≤ v → (p ≤ (nmn tp k p v).2 ∧ (nmn tp k p v).2 ≤ (tp.length : Int)) ∧ (0 ≤ (nmn tp k p v).1 ∧ (nmn tp k p v).1 < (v + 1) * 10 ^ k)
  | 0, p, v, h, h0 => ⟨⟨Int.le_refl _, h.2⟩, h0, by show v < (v + 1) * 10 ^ 0; omega⟩
  | k + 1, p, v, h, h0 => by
    rw [nmn]
    have h10 : (0 : Int) < 10 ^ k := Int.pow_pos (by decide)
    have e10 : (10 : Int) ^ (k + 1) = 10 * 10 ^ k := by rw [Int.pow_succ, Int.mul_comm]
    split
    · rename_i hd
      have hp := tch_pos (tp := tp) (p := p) (by omega)
      have ih := nmn_r (tp := tp) k (p + 1) (v * 10 + (tch tp p - 48)) (by omega) (by omega)
      refine ⟨by omega, ih.2.1, Int.lt_of_lt_of_le ih.2.2 ?_⟩
      rw [e10, ← Int.mul_assoc]
      exact Int.mul_le_mul_of_nonneg_right (by omega) (by omega)
    · refine ⟨⟨Int.le_refl _, h.2⟩, h0, ?_⟩
      have : (v + 1) * 1 ≤ (v + 1) * 10 ^ (k + 1) := Int.mul_le_mul_of_nonneg_left (by rw [e10]; omega) (by omega)
      omega
theorem nmR_r {tp : List Int} {k : Nat} {a : Int} (hk : k ≤ 4) (h : 0 ≤ a ∧ a ≤ (tp.length : Int)) : (a ≤ (nmR tp k a).2.2 ∧ (nmR tp k a).2.2 ≤ (tp.length : Int)) ∧ (0 ≤ (nmR tp k a).2.1 ∧ (nmR tp k a).2.1 ≤ 9999) ∧ (-1 ≤ (nmR tp k a).1 ∧ (nmR tp k a).1 ≤ (tp.length : Int)) := by
  have hs := sk_r h.2
  have h1 := nmn_r (tp := tp) k (sk tp a) 0 (by omega) (by omega)
  have h2 : ((0 : Int) + 1) * 10 ^ k ≤ 10000 := by
    rcases (show k = 0 ∨ k = 1 ∨ k = 2 ∨ k = 3 ∨ k = 4 by omega) with rfl | rfl | rfl | rfl | rfl <;> decide
  unfold nmR
  split
  · refine ⟨?_, ?_, ?_⟩
    · dsimp only; omega
    · dsimp only; omega
    · dsimp only; split <;> omega
  · dsimp only; omega
/-- a number within bounds: fault, value, where -/
def itR (tp : List Int) (lo hi a : Int) : Int × Int × Int := if (nmR tp 2 a).1 ≠ -1 then nmR tp 2 a else if (nmR tp 2 a).2.1 < lo ∨ hi < (nmR tp 2 a).2.1 then ((nmR tp 2 a).2.2 - 1, (nmR tp 2 a).2.1, (nmR tp 2 a).2.2) else nmR tp 2 a
def pw (c : Int) : Int := if c = 120 then 0 else if c = 104 then 1 else if c = 99 then 2 else if c = 102 then 3 else -1
def pb (c : Int) : Int := if c = 97 then 0 else if c = 110 then 1 else if c = 112 then 2 else -1
def pl (c : Int) : Int := if c = 112 then 0 else if c = 115 then 1 else if c = 107 then 2 else if c = 113 then 3 else -1
def pr (c : Int) : Int := if c = 100 then 0 else if c = 104 then 1 else if c = 99 then 2 else if c = 102 then 3 else if c = 111 then 4 else if c = 107 then 5 else -1
def pcm (c : Int) : Int := if c = 61 then 0 else if c = 60 then 1 else if c = 62 then 2 else -1
theorem pw_r (c : Int) : -1 ≤ pw c ∧ pw c ≤ 3 ∧ (pw c ≠ -1 → c ≠ 0) := by unfold pw; repeat (split <;> (try omega))
theorem pb_r (c : Int) : -1 ≤ pb c ∧ pb c ≤ 2 ∧ (pb c ≠ -1 → c ≠ 0) := by unfold pb; repeat (split <;> (try omega))
theorem pl_r (c : Int) : -1 ≤ pl c ∧ pl c ≤ 3 ∧ (pl c ≠ -1 → c ≠ 0) := by unfold pl; repeat (split <;> (try omega))
theorem pr_r (c : Int) : -1 ≤ pr c ∧ pr c ≤ 5 ∧ (pr c ≠ -1 → c ≠ 0) := by unfold pr; repeat (split <;> (try omega))
theorem pcm_r (c : Int) : -1 ≤ pcm c ∧ pcm c ≤ 2 ∧ (pcm c ≠ -1 → c ≠ 0) := by unfold pcm; repeat (split <;> (try omega))
/-- items: fault, where, values -/
def its (pos lo hi : Int → Int) (tp : List Int) : Nat → Int → Int → (Int → Int) → Int × Int × (Int → Int)
  | 0, _, a, v => (-1, a, v)
  | m + 1, t, a, v => if pos (lk tp a) = -1 then (-1, sk tp a, v) else if t / 2 ^ (pos (lk tp a)).toNat % 2 = 1 then (sk tp a, sk tp a, v) else if (itR tp (lo (pos (lk tp a))) (hi (pos (lk tp a))) (sk tp a + 1)).1 ≠ -1 then ((itR tp (lo (pos (lk tp a))) (hi (pos (lk tp a))) (sk tp a + 1)).1, (itR tp (lo (pos (lk tp a))) (hi (pos (lk tp a))) (sk tp a + 1)).2.2, v) else its pos lo hi tp m (orz t (pos (lk tp a))) (itR tp (lo (pos (lk tp a))) (hi (pos (lk tp a))) (sk tp a + 1)).2.2 (usz v (pos (lk tp a)) (itR tp (lo (pos (lk tp a))) (hi (pos (lk tp a))) (sk tp a + 1)).2.1)
def pc4 (t : Int) : Int := t % 2 + t / 2 % 2 + t / 4 % 2 + t / 8 % 2
theorem orz4 {t i : Int} (ht : 0 ≤ t ∧ t < 16) (hi : 0 ≤ i ∧ i ≤ 3) (hb : ¬ t / 2 ^ i.toNat % 2 = 1) : (0 ≤ orz t i ∧ orz t i < 16) ∧ pc4 (orz t i) = pc4 t + 1 ∧ (t < 8 → i ≤ 2 → orz t i < 8) := by
  unfold orz pc4
  rw [if_neg hb]
  rcases (show i = 0 ∨ i = 1 ∨ i = 2 ∨ i = 3 by omega) with rfl | rfl | rfl | rfl
  · rw [show (2 : Int) ^ (0 : Int).toNat = 1 from rfl] at *; omega
  · rw [show (2 : Int) ^ (1 : Int).toNat = 2 from rfl] at *; omega
  · rw [show (2 : Int) ^ (2 : Int).toNat = 4 from rfl] at *; omega
  · rw [show (2 : Int) ^ (3 : Int).toNat = 8 from rfl] at *; omega
theorem itR_r {tp : List Int} {lo hi a : Int} (h : 0 ≤ a ∧ a ≤ (tp.length : Int)) : (a ≤ (itR tp lo hi a).2.2 ∧ (itR tp lo hi a).2.2 ≤ (tp.length : Int)) ∧ (0 ≤ (itR tp lo hi a).2.1 ∧ (itR tp lo hi a).2.1 ≤ 9999) ∧ (-1 ≤ (itR tp lo hi a).1 ∧ (itR tp lo hi a).1 ≤ (tp.length : Int)) ∧ ((itR tp lo hi a).1 = -1 → lo ≤ (itR tp lo hi a).2.1 ∧ (itR tp lo hi a).2.1 ≤ hi) := by
  have h1 := nmR_r (k := 2) (by omega) h
  unfold itR
  split
  · exact ⟨h1.1, h1.2.1, h1.2.2, fun z => absurd z (by assumption)⟩
  · split
    · refine ⟨h1.1, h1.2.1, ?_, fun z => ?_⟩
      · dsimp only; omega
      · exfalso
        have z' : (nmR tp 2 a).2.2 - 1 = -1 := z
        have hz : (nmR tp 2 a).1 = -1 := by omega
        have h0 : (nmR tp 2 a).2.2 = 0 := by omega
        unfold nmR at hz h0
        have hs := sk_r h.2
        split at hz
        · rename_i hd
          rw [if_pos hd] at h0
          dsimp only at h0
          rw [nmn, if_pos hd] at h0
          have h3 := nmn_r (tp := tp) 1 (sk tp a + 1) (0 * 10 + (tch tp (sk tp a) - 48)) (by have := tch_pos (tp := tp) (p := sk tp a) (by omega); omega) (by omega)
          omega
        · dsimp only at hz; omega
    · exact ⟨h1.1, h1.2.1, h1.2.2, fun _ => by omega⟩
/-- a front as it is read: fault, where, how many windows and brigades, whether the law is told, their numbers -/
abbrev FS : Type := Int × Int × Int × Int × Int × (Int → Int → Int) × (Int → Int → Int) × (Int → Int)
def fE (S : FS) : Int := S.1
def fA (S : FS) : Int := S.2.1
def fW (S : FS) : Int := S.2.2.1
def fB (S : FS) : Int := S.2.2.2.1
def fL (S : FS) : Int := S.2.2.2.2.1
def gW (S : FS) : Int → Int → Int := S.2.2.2.2.2.1
def gB (S : FS) : Int → Int → Int := S.2.2.2.2.2.2.1
def gL (S : FS) : Int → Int := S.2.2.2.2.2.2.2
def usf (f : Int → Int → Int) (k : Int) (v : Int → Int) : Int → Int → Int := fun j => if j = k then v else f j
theorem usf_s (f : Int → Int → Int) (k : Int) (v : Int → Int) : usf f k v k = v := if_pos rfl
theorem usf_n {f : Int → Int → Int} {k j : Int} {v : Int → Int} (h : j ≠ k) : usf f k v j = f j := if_neg h
def iW (tp : List Int) (p : Int) : Int × Int × (Int → Int) := its pw kc6 kc7 tp 5 0 p kc5
def iB (tp : List Int) (p : Int) : Int × Int × (Int → Int) := its pb kc9 kc10 tp 4 0 p kc8
def iL (tp : List Int) (p : Int) : Int × Int × (Int → Int) := its pl kc11 kc12 tp 5 0 p kc4
def cls (tp : List Int) (S : FS) : FS := if lk tp (fA S) = 119 ∧ fW S < 4 then ((iW tp (sk tp (fA S) + 1)).1, (iW tp (sk tp (fA S) + 1)).2.1, fW S + 1, fB S, fL S, usf (gW S) (fW S) (iW tp (sk tp (fA S) + 1)).2.2, gB S, gL S)
  else if lk tp (fA S) = 98 ∧ fB S < 3 then ((iB tp (sk tp (fA S) + 1)).1, (iB tp (sk tp (fA S) + 1)).2.1, fW S, fB S + 1, fL S, gW S, usf (gB S) (fB S) (iB tp (sk tp (fA S) + 1)).2.2, gL S)
  else if lk tp (fA S) = 108 ∧ fL S = 0 then ((iL tp (sk tp (fA S) + 1)).1, (iL tp (sk tp (fA S) + 1)).2.1, fW S, fB S, 1, gW S, gB S, (iL tp (sk tp (fA S) + 1)).2.2)
  else (sk tp (fA S), sk tp (fA S), fW S, fB S, fL S, gW S, gB S, gL S)
def fAt (S : FS) (e a : Int) : FS := (e, a, fW S, fB S, fL S, gW S, gB S, gL S)
def frn (tp : List Int) : Nat → FS → FS
  | 0, S => S
  | m + 1, S => if fE (cls tp S) ≠ -1 then cls tp S else if lk tp (fA (cls tp S)) = 0 then fAt (cls tp S) (-1) (sk tp (fA (cls tp S))) else if lk tp (fA (cls tp S)) = 59 then frn tp m (fAt (cls tp S) (-1) (sk tp (fA (cls tp S)) + 1)) else fAt (cls tp S) (sk tp (fA (cls tp S))) (sk tp (fA (cls tp S)))
def fr0 : FS := (-1, 0, 0, 0, 0, fun _ _ => 0, fun _ _ => 0, kc4)
def fr9 (tp : List Int) : FS := frn tp 9 fr0
/-- the first wrong byte of a front -/
def frF (tp : List Int) : Int := if fE (fr9 tp) ≠ -1 then fE (fr9 tp) else if fW (fr9 tp) = 0 ∨ fB (fr9 tp) = 0 then (tp.length : Int) else -1
