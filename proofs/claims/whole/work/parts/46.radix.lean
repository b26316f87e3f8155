/-! rows by their numbers: three digits of changing bases -/
theorem dvm {a m r : Int} (hr : 0 ≤ r ∧ r < m) : (a * m + r) / m = a ∧ (a * m + r) % m = r := by
  have hm : m ≠ 0 := by omega
  refine ⟨?_, ?_⟩
  · rw [Int.add_comm, Int.add_mul_ediv_right _ _ hm, Int.ediv_eq_zero_of_lt hr.1 hr.2, Int.zero_add]
  · rw [Int.add_comm, Int.add_mul_emod_self_right, Int.emod_eq_of_lt hr.1 hr.2]
theorem mlt {a b m n : Int} (ha : 0 ≤ a ∧ a < m) (hb : 0 ≤ b ∧ b < n) : 0 ≤ a * n + b ∧ a * n + b < m * n := by
  have h1 : 0 ≤ a * n := Int.mul_nonneg ha.1 (by omega)
  have h2 : (a + 1) * n ≤ m * n := Int.mul_le_mul_of_nonneg_right (by omega) (by omega)
  rw [Int.add_mul, Int.one_mul] at h2
  omega
theorem mle25 {a b : Int} (ha : 0 ≤ a ∧ a ≤ 25) (hb : 0 ≤ b ∧ b ≤ 25) : 0 ≤ a * b ∧ a * b ≤ 625 := by
  have h1 : 0 ≤ a * b := Int.mul_nonneg ha.1 hb.1
  have h2 : a * b ≤ 25 * b := Int.mul_le_mul_of_nonneg_right ha.2 hb.1
  omega
theorem mle625 {a b : Int} (ha : 0 ≤ a ∧ a ≤ 625) (hb : 0 ≤ b ∧ b ≤ 25) : 0 ≤ a * b ∧ a * b ≤ 15625 := by
  have h1 : 0 ≤ a * b := Int.mul_nonneg ha.1 hb.1
  have h2 : a * b ≤ 625 * b := Int.mul_le_mul_of_nonneg_right ha.2 hb.1
  omega
def en3 (p q a b c : Int) : Int := (a * p + b) * q + c
def t3 (m : Int → Int) : Int := m 0 * m 1 * m 2
def s3 (m : Int → Int) (b : Int) : Int := if b = 0 then m 1 * m 2 else if b = 1 then m 2 else 1
def x3 (m : Int → Int) (i b : Int) : Int := i / s3 m b % m b
def o3 (m : Int → Int) (i b : Int) : Int := i / (s3 m b * m b) * s3 m b + i % s3 m b
def n3 (m : Int → Int) (i b k : Int) : Int := i - x3 m i b * s3 m b + k * s3 m b
/-- bases -/
def B3 (m : Int → Int) : Prop := ∀ b, 0 ≤ b → b < 3 → 1 ≤ m b ∧ m b ≤ 25
def G3 (m : Int → Int) (a b c : Int) : Prop := (0 ≤ a ∧ a < m 0) ∧ (0 ≤ b ∧ b < m 1) ∧ (0 ≤ c ∧ c < m 2)
section Radix
variable {m : Int → Int}
theorem en_r {a b c : Int} (h : G3 m a b c) : 0 ≤ en3 (m 1) (m 2) a b c ∧ en3 (m 1) (m 2) a b c < t3 m := mlt (mlt h.1 h.2.1) h.2.2
theorem en_s {p q a b c : Int} : en3 p q a b c = a * (p * q) + (b * q + c) := by
  unfold en3
  rw [Int.add_mul, Int.mul_assoc, Int.add_assoc]
theorem en_0 {a b c : Int} (h : G3 m a b c) : en3 (m 1) (m 2) a b c / (m 1 * m 2) = a ∧ en3 (m 1) (m 2) a b c % (m 1 * m 2) = b * m 2 + c := by
  rw [en_s]
  exact dvm (mlt h.2.1 h.2.2)
theorem en_1 {a b c : Int} (h : G3 m a b c) : en3 (m 1) (m 2) a b c / m 2 = a * m 1 + b ∧ en3 (m 1) (m 2) a b c % m 2 = c := dvm h.2.2
theorem x3_0 {a b c : Int} (h : G3 m a b c) : x3 m (en3 (m 1) (m 2) a b c) 0 = a := by
  show en3 (m 1) (m 2) a b c / (m 1 * m 2) % m 0 = a
  rw [(en_0 h).1, Int.emod_eq_of_lt h.1.1 h.1.2]
theorem x3_1 {a b c : Int} (h : G3 m a b c) : x3 m (en3 (m 1) (m 2) a b c) 1 = b := by
  show en3 (m 1) (m 2) a b c / m 2 % m 1 = b
  rw [(en_1 h).1]
  exact (dvm h.2.1).2
theorem x3_2 {a b c : Int} (h : G3 m a b c) : x3 m (en3 (m 1) (m 2) a b c) 2 = c := by
  show en3 (m 1) (m 2) a b c / 1 % m 2 = c
  rw [Int.ediv_one]
  exact (en_1 h).2
theorem de3 (hb : B3 m) {i : Int} (h : 0 ≤ i ∧ i < t3 m) : ∃ a b c, G3 m a b c ∧ i = en3 (m 1) (m 2) a b c := by
  have h0 := hb 0 (by omega) (by omega)
  have h1 := hb 1 (by omega) (by omega)
  have h2 := hb 2 (by omega) (by omega)
  refine ⟨i / m 2 / m 1, i / m 2 % m 1, i % m 2, ⟨⟨?_, ?_⟩, ⟨Int.emod_nonneg _ (by omega), Int.emod_lt_of_pos _ (by omega)⟩, ⟨Int.emod_nonneg _ (by omega), Int.emod_lt_of_pos _ (by omega)⟩⟩, ?_⟩
  · exact Int.ediv_nonneg (Int.ediv_nonneg h.1 (by omega)) (by omega)
  · rw [Int.ediv_lt_iff_lt_mul (by omega), Int.ediv_lt_iff_lt_mul (by omega)]
    exact h.2
  · unfold en3
    rw [Int.mul_comm (i / m 2 / m 1) (m 1), Int.mul_ediv_add_emod, Int.mul_comm (i / m 2) (m 2), Int.mul_ediv_add_emod]
theorem s3_0 : s3 m 0 = m 1 * m 2 := rfl
theorem s3_1 : s3 m 1 = m 2 := rfl
theorem s3_2 : s3 m 2 = 1 := rfl
theorem o3_0 {a b c : Int} (h : G3 m a b c) : o3 m (en3 (m 1) (m 2) a b c) 0 = b * m 2 + c := by
  show en3 (m 1) (m 2) a b c / (m 1 * m 2 * m 0) * (m 1 * m 2) + en3 (m 1) (m 2) a b c % (m 1 * m 2) = _
  have h2 := en_r h
  have e : m 1 * m 2 * m 0 = t3 m := by unfold t3; rw [Int.mul_comm (m 1 * m 2), Int.mul_assoc]
  rw [(en_0 h).2, e, Int.ediv_eq_zero_of_lt h2.1 h2.2, Int.zero_mul, Int.zero_add]
theorem o3_1 {a b c : Int} (h : G3 m a b c) : o3 m (en3 (m 1) (m 2) a b c) 1 = a * m 2 + c := by
  show en3 (m 1) (m 2) a b c / (m 2 * m 1) * m 2 + en3 (m 1) (m 2) a b c % m 2 = _
  rw [(en_1 h).2, Int.mul_comm (m 2) (m 1), (en_0 h).1]
theorem o3_2 {a b c : Int} (h : G3 m a b c) : o3 m (en3 (m 1) (m 2) a b c) 2 = a * m 1 + b := by
  show en3 (m 1) (m 2) a b c / (1 * m 2) * 1 + en3 (m 1) (m 2) a b c % 1 = _
  rw [Int.one_mul, (en_1 h).1, Int.emod_one, Int.mul_one, Int.add_zero]
theorem n3_0 {a b c k : Int} (h : G3 m a b c) : n3 m (en3 (m 1) (m 2) a b c) 0 k = en3 (m 1) (m 2) k b c := by
  show en3 (m 1) (m 2) a b c - x3 m (en3 (m 1) (m 2) a b c) 0 * (m 1 * m 2) + k * (m 1 * m 2) = _
  rw [x3_0 h, en_s, en_s]
  omega
theorem n3_1 {a b c k : Int} (h : G3 m a b c) : n3 m (en3 (m 1) (m 2) a b c) 1 k = en3 (m 1) (m 2) a k c := by
  show en3 (m 1) (m 2) a b c - x3 m (en3 (m 1) (m 2) a b c) 1 * m 2 + k * m 2 = _
  rw [x3_1 h, en_s, en_s]
  omega
theorem n3_2 {a b c k : Int} (h : G3 m a b c) : n3 m (en3 (m 1) (m 2) a b c) 2 k = en3 (m 1) (m 2) a b k := by
  show en3 (m 1) (m 2) a b c - x3 m (en3 (m 1) (m 2) a b c) 2 * 1 + k * 1 = _
  rw [x3_2 h]
  unfold en3
  omega
theorem x3_r (hb : B3 m) {i b : Int} (h : 0 ≤ b ∧ b < 3) : 0 ≤ x3 m i b ∧ x3 m i b < m b := by
  have h1 := hb b h.1 h.2
  exact ⟨Int.emod_nonneg _ (by omega), Int.emod_lt_of_pos _ (by omega)⟩
/-- the row next to a row: one digit another -/
theorem n3_x (hb : B3 m) {i b k c : Int} (hi : 0 ≤ i ∧ i < t3 m) (h : 0 ≤ b ∧ b < 3) (hk : 0 ≤ k ∧ k < m b) (hc : 0 ≤ c ∧ c < 3) : (0 ≤ n3 m i b k ∧ n3 m i b k < t3 m) ∧ x3 m (n3 m i b k) c = (if c = b then k else x3 m i c) ∧ o3 m (n3 m i b k) b = o3 m i b := by
  obtain ⟨x, y, z, hG, rfl⟩ := de3 hb hi
  rcases (show b = 0 ∨ b = 1 ∨ b = 2 by omega) with rfl | rfl | rfl
  · have hG2 : G3 m k y z := ⟨hk, hG.2⟩
    rw [n3_0 hG]
    refine ⟨en_r hG2, ?_, by rw [o3_0 hG2, o3_0 hG]⟩
    rcases (show c = 0 ∨ c = 1 ∨ c = 2 by omega) with rfl | rfl | rfl
    · rw [x3_0 hG2, if_pos rfl]
    · rw [x3_1 hG2, x3_1 hG, if_neg (by omega)]
    · rw [x3_2 hG2, x3_2 hG, if_neg (by omega)]
  · have hG2 : G3 m x k z := ⟨hG.1, hk, hG.2.2⟩
    rw [n3_1 hG]
    refine ⟨en_r hG2, ?_, by rw [o3_1 hG2, o3_1 hG]⟩
    rcases (show c = 0 ∨ c = 1 ∨ c = 2 by omega) with rfl | rfl | rfl
    · rw [x3_0 hG2, x3_0 hG, if_neg (by omega)]
    · rw [x3_1 hG2, if_pos rfl]
    · rw [x3_2 hG2, x3_2 hG, if_neg (by omega)]
  · have hG2 : G3 m x y k := ⟨hG.1, hG.2.1, hk⟩
    rw [n3_2 hG]
    refine ⟨en_r hG2, ?_, by rw [o3_2 hG2, o3_2 hG]⟩
    rcases (show c = 0 ∨ c = 1 ∨ c = 2 by omega) with rfl | rfl | rfl
    · rw [x3_0 hG2, x3_0 hG, if_neg (by omega)]
    · rw [x3_1 hG2, x3_1 hG, if_neg (by omega)]
    · rw [x3_2 hG2, if_pos rfl]
theorem dvu {a b r s m : Int} (hr : 0 ≤ r ∧ r < m) (hs : 0 ≤ s ∧ s < m) (h : a * m + r = b * m + s) : a = b ∧ r = s := by
  have h1 := dvm (a := a) hr
  have h2 := dvm (a := b) hs
  rw [h] at h1
  exact ⟨h1.1.symm.trans h2.1, h1.2.symm.trans h2.2⟩
/-- rows that are alike but for one digit are next to one another -/
theorem o3_n (hb : B3 m) {i j b : Int} (hi : 0 ≤ i ∧ i < t3 m) (hj : 0 ≤ j ∧ j < t3 m) (h : 0 ≤ b ∧ b < 3) (he : o3 m j b = o3 m i b) : j = n3 m i b (x3 m j b) := by
  obtain ⟨x, y, z, hG, rfl⟩ := de3 hb hi
  obtain ⟨x', y', z', hG', rfl⟩ := de3 hb hj
  rcases (show b = 0 ∨ b = 1 ∨ b = 2 by omega) with rfl | rfl | rfl
  · rw [o3_0 hG, o3_0 hG'] at he
    obtain ⟨rfl, rfl⟩ := dvu hG'.2.2 hG.2.2 he
    rw [x3_0 hG', n3_0 hG]
  · rw [o3_1 hG, o3_1 hG'] at he
    obtain ⟨rfl, rfl⟩ := dvu hG'.2.2 hG.2.2 he
    rw [x3_1 hG', n3_1 hG]
  · rw [o3_2 hG, o3_2 hG'] at he
    obtain ⟨rfl, rfl⟩ := dvu hG'.2.1 hG.2.1 he
    rw [x3_2 hG', n3_2 hG]
theorem o3_r (hb : B3 m) {i b : Int} (hi : 0 ≤ i ∧ i < t3 m) (h : 0 ≤ b ∧ b < 3) : 0 ≤ o3 m i b ∧ o3 m i b < 625 := by
  have h0 := hb 0 (by omega) (by omega)
  have h1 := hb 1 (by omega) (by omega)
  have h2 := hb 2 (by omega) (by omega)
  obtain ⟨x, y, z, hG, rfl⟩ := de3 hb hi
  rcases (show b = 0 ∨ b = 1 ∨ b = 2 by omega) with rfl | rfl | rfl
  · rw [o3_0 hG]
    have e1 := mlt hG.2.1 hG.2.2
    have e2 := mle25 (a := m 1) (b := m 2) (by omega) (by omega)
    omega
  · rw [o3_1 hG]
    have e1 := mlt hG.1 hG.2.2
    have e2 := mle25 (a := m 0) (b := m 2) (by omega) (by omega)
    omega
  · rw [o3_2 hG]
    have e1 := mlt hG.1 hG.2.1
    have e2 := mle25 (a := m 0) (b := m 1) (by omega) (by omega)
    omega
theorem s3_r (hb : B3 m) (b : Int) : 1 ≤ s3 m b ∧ s3 m b ≤ 625 := by
  have h1 := hb 1 (by omega) (by omega)
  have h2 := hb 2 (by omega) (by omega)
  have e2 := mle25 (a := m 1) (b := m 2) (by omega) (by omega)
  have e3 : 1 * 1 ≤ m 1 * m 2 := Int.mul_le_mul h1.1 h2.1 (by omega) (by omega)
  unfold s3
  split
  · omega
  · split <;> omega
theorem t3_r (hb : B3 m) : 1 ≤ t3 m ∧ t3 m ≤ 15625 := by
  have h0 := hb 0 (by omega) (by omega)
  have h1 := hb 1 (by omega) (by omega)
  have h2 := hb 2 (by omega) (by omega)
  have e2 := mle25 (a := m 0) (b := m 1) (by omega) (by omega)
  have e3 : 1 * 1 ≤ m 0 * m 1 := Int.mul_le_mul h0.1 h1.1 (by omega) (by omega)
  have e4 := mle625 (a := m 0 * m 1) (b := m 2) (by omega) (by omega)
  have e5 : 1 * 1 ≤ m 0 * m 1 * m 2 := Int.mul_le_mul (by omega) h2.1 (by omega) (by omega)
  unfold t3
  omega
theorem sm3_r (hb : B3 m) {b : Int} (h : 0 ≤ b ∧ b < 3) : 1 ≤ s3 m b * m b ∧ s3 m b * m b ≤ 15625 := by
  have h1 := hb b h.1 h.2
  have e1 := s3_r hb b
  have e2 := mle625 (a := s3 m b) (b := m b) (by omega) (by omega)
  have e3 : 1 * 1 ≤ s3 m b * m b := Int.mul_le_mul e1.1 h1.1 (by omega) (by omega)
  omega
end Radix
/-- how many puts a brigade has, and which -/
def plx (nw nb : Int) (W B : Int → Int → Int) (b : Int) : List Int := if b < nb then pls nw W B b else [99]
def mny (nw nb : Int) (W B : Int → Int → Int) (b : Int) : Int := ((plx nw nb W B b).length : Int)
def PI (nw nb : Int) (W B : Int → Int → Int) (i : Int) : Int → Int := fun b => lat (plx nw nb W B b) (x3 (mny nw nb W B) i b)
theorem plx_t {nw nb : Int} {W B : Int → Int → Int} {b : Int} (h : b < nb) : plx nw nb W B b = pls nw W B b := if_pos h
theorem plx_f {nw nb : Int} {W B : Int → Int → Int} {b : Int} (h : ¬ b < nb) : plx nw nb W B b = [99] := if_neg h
theorem mny_t {nw nb : Int} {W B : Int → Int → Int} {b : Int} (h : b < nb) : mny nw nb W B b = ((pls nw W B b).length : Int) := by unfold mny; rw [plx_t h]
theorem mny_f {nw nb : Int} {W B : Int → Int → Int} {b : Int} (h : ¬ b < nb) : mny nw nb W B b = 1 := by unfold mny; rw [plx_f h]; rfl
theorem mny_b {nw nb : Int} {W B : Int → Int → Int} (hn : nw ≤ 4) : B3 (mny nw nb W B) := by
  intro b _ _
  by_cases h : b < nb
  · rw [mny_t h]
    have := pls_25 (W := W) (B := B) (b := b) hn
    omega
  · rw [mny_f h]; omega
theorem PI_ok {nw nb : Int} {W B : Int → Int → Int} (hF : FrOK nw nb W B) (i : Int) : PtOK nw nb W B (PI nw nb W B i) := by
  intro b h0 h1
  have hn := hF.1
  have hx := x3_r (mny_b (nw := nw) (nb := nb) (W := W) (B := B) hn.2.1) (i := i) (b := b) (by omega)
  rw [mny_t h1] at hx
  unfold PI
  rw [plx_t h1]
  exact pls_mem.mp (lat_mem hx)
theorem PI_r {nw nb : Int} {W B : Int → Int → Int} (hF : FrOK nw nb W B) (i : Int) {b : Int} (h : 0 ≤ b ∧ b < 3) : 0 ≤ PI nw nb W B i b ∧ PI nw nb W B i b ≤ 99 := by
  have hn := hF.1
  by_cases h1 : b < nb
  · have := PI_ok hF i b h.1 h1
    rcases this with z | z <;> omega
  · have hx := x3_r (mny_b (nw := nw) (nb := nb) (W := W) (B := B) hn.2.1) (i := i) (b := b) (by omega)
    rw [mny_f h1] at hx
    unfold PI
    rw [plx_f h1, show x3 (mny nw nb W B) i b = 0 by omega]
    exact ⟨by decide, by decide⟩
/-- the outcome of a row -/
def oci (nw nb : Int) (W B : Int → Int → Int) (i : Int) : Int := ocv nb W B (PI nw nb W B i) (svn nb W B (PI nw nb W B i))
theorem ocv_c {nw nb : Int} {W B : Int → Int → Int} {P : Int → Int} {S S' : SV} (hF : FrOK nw nb W B) (hmy : PtOK nw nb W B P) (h : SEq nw nb S S') : ocv nb W B P S = ocv nb W B P S' := by
  have e : ∀ b, 0 ≤ b → b < 3 → ocb nb W B P S b = ocb nb W B P S' b := by
    intro b h0 h1
    unfold ocb
    by_cases hc : b < nb ∧ bkv nb B P b = 0
    · have hw := hmy.w h0 hc.1 hc.2
      rw [if_pos hc, if_pos hc, h.2.2.1 b h0 hc.1, (h.1 (P b % 10) (by omega) (by omega)).2]
    · rw [if_neg hc, if_neg hc]
  unfold ocv
  rw [e 0 (by omega) (by omega), e 1 (by omega) (by omega), e 2 (by omega) (by omega)]
theorem oci_r {nw nb : Int} {W B : Int → Int → Int} (hF : FrOK nw nb W B) (i : Int) : 0 ≤ oci nw nb W B i ∧ oci nw nb W B i < 16777216 := ocv_r hF (PI_ok hF i) (svn_ok hF (PI_ok hF i)) (svn_j hF (PI_ok hF i))
/-- what a row saves, pays; who stands back -/
def rsv (nw nb : Int) (W B : Int → Int → Int) (i : Int) : Int := sT (svn nb W B (PI nw nb W B i))
def rgn (nw nb : Int) (W B : Int → Int → Int) (law : Int → Int) (i b : Int) : Int := gnr nw nb W B law (PI nw nb W B i) b
def rbk (nw nb : Int) (W B : Int → Int → Int) (i b : Int) : Int := bkv nb B (PI nw nb W B i) b
theorem rsv_r {nw nb : Int} {W B : Int → Int → Int} (hF : FrOK nw nb W B) (i : Int) : 0 ≤ rsv nw nb W B i ∧ rsv nw nb W B i ≤ 36 := by
  have h1 := (svn_ok hF (PI_ok hF i)).2.1
  have h2 := lsm_nn (svn_ok hF (PI_ok hF i))
  unfold rsv
  omega
theorem rgn_r {nw nb : Int} {W B : Int → Int → Int} (hF : FrOK nw nb W B) {law : Int → Int} (hL : LwOK law) (i : Int) {b : Int} (hb : 0 ≤ b ∧ b < nb) : -1000 ≤ rgn nw nb W B law i b ∧ rgn nw nb W B law i b ≤ 4000 := gnr_r hF (PI_ok hF i) hL hb
theorem rbk_r {nw nb : Int} {W B : Int → Int → Int} (i b : Int) : 0 ≤ rbk nw nb W B i b ∧ rbk nw nb W B i b ≤ 1 := bkv_r nb B _ b
/-- an outcome with its marks -/
def mko (nw nb : Int) (W B : Int → Int → Int) (r e : Int → Int) (i : Int) : Int := pkm (oci nw nb W B i) (r i) (e i)
def Mk01 (r : Int → Int) : Prop := ∀ i, 0 ≤ r i ∧ r i ≤ 1
theorem mko_r {nw nb : Int} {W B : Int → Int → Int} (hF : FrOK nw nb W B) {r e : Int → Int} (hr : Mk01 r) (he : Mk01 e) (i : Int) : 0 ≤ mko nw nb W B r e i ∧ mko nw nb W B r e i < 134217728 := by
  have h1 := oci_r hF i
  have h2 := hr i
  have h3 := he i
  unfold mko pkm
  omega
theorem mko_als {nw nb : Int} {W B : Int → Int → Int} (hF : FrOK nw nb W B) {r e : Int → Int} (hr : Mk01 r) (he : Mk01 e) (i : Int) : als (mko nw nb W B r e i) = rsv nw nb W B i := pk_als hF (PI_ok hF i) (svn_ok hF (PI_ok hF i)) (svn_j hF (PI_ok hF i)) (hr i) (he i)
theorem mko_bk {nw nb : Int} {W B : Int → Int → Int} (hF : FrOK nw nb W B) {r e : Int → Int} (hr : Mk01 r) (he : Mk01 e) (i : Int) {b : Int} (hb : 0 ≤ b ∧ b < nb) : bki (mko nw nb W B r e i) b = rbk nw nb W B i b := pk_bk hF (PI_ok hF i) (svn_ok hF (PI_ok hF i)) (svn_j hF (PI_ok hF i)) hb (hr i) (he i)
/-- the law with another way of sharing -/
def lwq (law : Int → Int) (q : Int) : Int → Int := usz law 3 q
theorem lwq_ok {law : Int → Int} (hL : LwOK law) {q : Int} (hq : 0 ≤ q ∧ q ≤ 2) : LwOK (lwq law q) := by
  obtain ⟨h0, h1, h2, h3⟩ := hL
  refine ⟨?_, ?_, ?_, ?_⟩ <;> unfold lwq
  · rw [usz_n (by omega)]; exact h0
  · rw [usz_n (by omega)]; exact h1
  · rw [usz_n (by omega)]; exact h2
  · rw [usz_s]; exact hq
theorem mko_gn {nw nb : Int} {W B : Int → Int → Int} (hF : FrOK nw nb W B) {law : Int → Int} (hL : LwOK law) {q : Int} (hq : 0 ≤ q ∧ q ≤ 2) {r e : Int → Int} (hr : Mk01 r) (he : Mk01 e) (i : Int) {b : Int} (hb : 0 ≤ b ∧ b < nb) : gnx law q (mko nw nb W B r e i) b = rgn nw nb W B (lwq law q) i b := by
  have h := gnx_gnv hF (PI_ok hF i) (svn_ok hF (PI_ok hF i)) (svn_j hF (PI_ok hF i)) hb (hr i) (he i) (lwq_ok hL hq)
  rw [show lwq law q 3 = q from usz_s _ _ _, gnx_l (law := lwq law q) (l' := law) (usz_n (by omega)) (usz_n (by omega)) (usz_n (by omega))] at h
  exact h
