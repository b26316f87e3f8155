/-! what a row of puts P makes: feet, crossings -/
/-- o has the place of b -/
abbrev btk (B : Int → Int → Int) (P : Int → Int) (b o : Int) : Prop := o ≠ b ∧ P o ≠ 99 ∧ P b ≠ 99 ∧ P o / 10 = P b / 10 ∧ (B o 0 < B b 0 ∨ B o 0 = B b 0 ∧ o < b)
/-- 1: b stands back, by its put or since one of the first n has its place -/
def bkn (B : Int → Int → Int) (P : Int → Int) (b : Int) : Nat → Int
  | 0 => if P b = 99 then 1 else 0
  | n + 1 => if bkn B P b n = 1 ∨ btk B P b n then 1 else 0
theorem bkn_r (B : Int → Int → Int) (P : Int → Int) (b : Int) : ∀ n, 0 ≤ bkn B P b n ∧ bkn B P b n ≤ 1
  | 0 => by unfold bkn; split <;> omega
  | n + 1 => by unfold bkn; split <;> omega
def bkv (nb : Int) (B : Int → Int → Int) (P : Int → Int) (b : Int) : Int := bkn B P b nb.toNat
theorem bkv_r (nb : Int) (B : Int → Int → Int) (P : Int → Int) (b : Int) : 0 ≤ bkv nb B P b ∧ bkv nb B P b ≤ 1 := bkn_r B P b _
theorem bkn_99 {B : Int → Int → Int} {P : Int → Int} {b : Int} (h : P b = 99) : ∀ n, bkn B P b n = 1
  | 0 => if_pos h
  | n + 1 => if_pos (Or.inl (bkn_99 h n))
theorem bkv_99 {nb : Int} {B : Int → Int → Int} {P : Int → Int} {b : Int} (h : bkv nb B P b = 0) : P b ≠ 99 := fun z => by
  have := bkn_99 (B := B) z nb.toNat
  unfold bkv at h
  omega
/-- those of the first n that stand back, as bits -/
def mkn (nb : Int) (B : Int → Int → Int) (P : Int → Int) : Nat → Int
  | 0 => 0
  | n + 1 => if bkv nb B P n = 1 then orz (mkn nb B P n) n else mkn nb B P n
def mkb (nb : Int) (B : Int → Int → Int) (P : Int → Int) : Int := mkn nb B P nb.toNat
theorem mkn_eq (nb : Int) (B : Int → Int → Int) (P : Int → Int) {n : Nat} (hn : n ≤ 3) : mkn nb B P n = (if 0 < n then bkv nb B P 0 else 0) + (if 1 < n then 2 * bkv nb B P 1 else 0) + (if 2 < n then 4 * bkv nb B P 2 else 0) := by
  have e : ∀ z : Int, 0 ≤ z ∧ z ≤ 1 → z = 0 ∨ z = 1 := fun z h => by omega
  have h0 := e _ (bkv_r nb B P 0)
  have h1 := e _ (bkv_r nb B P 1)
  have h2 := e _ (bkv_r nb B P 2)
  have s1 : mkn nb B P 1 = if bkv nb B P 0 = 1 then orz 0 0 else 0 := rfl
  have s2 : mkn nb B P 2 = if bkv nb B P 1 = 1 then orz (mkn nb B P 1) 1 else mkn nb B P 1 := rfl
  have s3 : mkn nb B P 3 = if bkv nb B P 2 = 1 then orz (mkn nb B P 2) 2 else mkn nb B P 2 := rfl
  rcases (show n = 0 ∨ n = 1 ∨ n = 2 ∨ n = 3 by omega) with rfl | rfl | rfl | rfl
  · rfl
  · rw [s1]; rcases h0 with h0 | h0 <;> rw [h0] <;> rfl
  · rw [s2, s1]; rcases h0 with h0 | h0 <;> rcases h1 with h1 | h1 <;> rw [h0, h1] <;> rfl
  · rw [s3, s2, s1]; rcases h0 with h0 | h0 <;> rcases h1 with h1 | h1 <;> rcases h2 with h2 | h2 <;> rw [h0, h1, h2] <;> rfl
theorem mkn_r (nb : Int) (B : Int → Int → Int) (P : Int → Int) {n : Nat} (hn : n ≤ 3) : 0 ≤ mkn nb B P n ∧ mkn nb B P n < 8 := by
  rw [mkn_eq nb B P hn]
  have h0 := bkv_r nb B P 0
  have h1 := bkv_r nb B P 1
  have h2 := bkv_r nb B P 2
  (repeat split) <;> omega
theorem mkn_has {nb : Int} {B : Int → Int → Int} {P : Int → Int} {n : Nat} {b : Int} (hn : n ≤ 3) (hb : 0 ≤ b ∧ b < n) : mkn nb B P n / 2 ^ b.toNat % 2 = bkv nb B P b := by
  rw [mkn_eq nb B P hn]
  have h0 := bkv_r nb B P 0
  have h1 := bkv_r nb B P 1
  have h2 := bkv_r nb B P 2
  rcases (show b = 0 ∨ b = 1 ∨ b = 2 by omega) with rfl | rfl | rfl
  · show _ / 1 % 2 = _
    rw [if_pos (by omega)]
    (repeat split) <;> omega
  · show _ / 2 % 2 = _
    rw [if_pos (by omega), if_pos (by omega)]
    (repeat split) <;> omega
  · show _ / 4 % 2 = _
    rw [if_pos (by omega), if_pos (by omega), if_pos (by omega)]
    omega
theorem mkb_has {nb : Int} {B : Int → Int → Int} {P : Int → Int} {b : Int} (hn : nb ≤ 3) (hb : 0 ≤ b ∧ b < nb) : mkb nb B P / 2 ^ b.toNat % 2 = bkv nb B P b := mkn_has (by omega) (by omega)
theorem mkb_r (nb : Int) (B : Int → Int → Int) (P : Int → Int) (hn : nb ≤ 3) : 0 ≤ mkb nb B P ∧ mkb nb B P < 8 := mkn_r nb B P (by omega)
/-- 1: a and b cross -/
def crz (nb : Int) (W B : Int → Int → Int) (P : Int → Int) (a b : Int) : Int := if a ≠ b ∧ bkv nb B P a = 0 ∧ bkv nb B P b = 0 ∧ (P a / 10 - P b / 10) * (W (P a % 10) 0 - W (P b % 10) 0) < 0 then 1 else 0
theorem crz_r (nb : Int) (W B : Int → Int → Int) (P : Int → Int) (a b : Int) : 0 ≤ crz nb W B P a b ∧ crz nb W B P a b ≤ 1 := by unfold crz; split <;> omega
/-- how many of the first n cross b -/
def shn (nb : Int) (W B : Int → Int → Int) (P : Int → Int) (b : Int) : Nat → Int
  | 0 => 0
  | n + 1 => shn nb W B P b n + crz nb W B P b n
def shk (nb : Int) (W B : Int → Int → Int) (P : Int → Int) (b : Int) : Int := shn nb W B P b nb.toNat
theorem shn_r (nb : Int) (W B : Int → Int → Int) (P : Int → Int) (b : Int) : ∀ n : Nat, 0 ≤ shn nb W B P b n ∧ shn nb W B P b n ≤ n
  | 0 => ⟨Int.le_refl _, Int.le_refl _⟩
  | n + 1 => by
    have ih := shn_r nb W B P b n
    have h1 : shn nb W B P b (n + 1) = shn nb W B P b n + crz nb W B P b n := rfl
    have h2 := crz_r nb W B P b n
    omega
theorem shn_b {nb : Int} {W B : Int → Int → Int} {P : Int → Int} {b : Int} (h : bkv nb B P b = 1) : ∀ n : Nat, shn nb W B P b n = 0
  | 0 => rfl
  | n + 1 => by
    have h1 : shn nb W B P b (n + 1) = shn nb W B P b n + crz nb W B P b n := rfl
    rw [h1, shn_b h n]
    unfold crz
    rw [if_neg (fun z => by omega)]
    rfl
def clb (nb : Int) (W B : Int → Int → Int) (P : Int → Int) (b : Int) : Int := B b 2 * W (P b % 10) 1 * (shk nb W B P b + 1)
theorem mulb {a b n : Int} (h : -n ≤ a ∧ a ≤ n) (h2 : -n ≤ b ∧ b ≤ n) : -(n * n) ≤ a * b ∧ a * b ≤ n * n := by
  have h3 : a.natAbs ≤ n.toNat := by omega
  have h4 : b.natAbs ≤ n.toNat := by omega
  have h5 := Nat.mul_le_mul h3 h4
  rw [← Int.natAbs_mul] at h5
  have h6 : ((n.toNat * n.toNat : Nat) : Int) = n * n := by rw [Int.natCast_mul, Int.toNat_of_nonneg (by omega)]
  omega
/-- the puts of a row that may be -/
def PtOK (nw nb : Int) (W B : Int → Int → Int) (P : Int → Int) : Prop := ∀ b, 0 ≤ b → b < nb → may nw W B b (P b)
theorem PtOK.r {nw nb : Int} {W B : Int → Int → Int} {P : Int → Int} (h : PtOK nw nb W B P) {b : Int} (h0 : 0 ≤ b) (h1 : b < nb) : 0 ≤ P b ∧ P b ≤ 99 := by
  rcases h b h0 h1 with z | z <;> omega
theorem PtOK.w {nw nb : Int} {W B : Int → Int → Int} {P : Int → Int} (h : PtOK nw nb W B P) {b : Int} (h0 : 0 ≤ b) (h1 : b < nb) (h2 : bkv nb B P b = 0) : 0 ≤ P b ∧ P b / 10 < 6 ∧ P b % 10 < nw := by
  rcases h b h0 h1 with z | z
  · exact absurd z (bkv_99 h2)
  · exact ⟨z.1, z.2.1, z.2.2.1⟩
theorem clb_r {nw nb : Int} {W B : Int → Int → Int} {P : Int → Int} (hF : FrOK nw nb W B) (h : PtOK nw nb W B P) {b : Int} (h0 : 0 ≤ b) (h1 : b < nb) (h2 : bkv nb B P b = 0) : 1 ≤ clb nb W B P b ∧ clb nb W B P b ≤ 180 := by
  have hw := h.w h0 h1 h2
  have e1 := hF.2.1 (P b % 10) (by omega) (by omega)
  have e2 := hF.2.2 b h0 h1
  have e3 := shn_r nb W B P b nb.toNat
  have e4 := hF.1
  have e5 : 0 ≤ shk nb W B P b ∧ shk nb W B P b ≤ 3 := by unfold shk; omega
  unfold clb
  have m1 : 1 * 1 ≤ B b 2 * W (P b % 10) 1 := Int.mul_le_mul (by omega) (by omega) (by omega) (by omega)
  have m2 : B b 2 * W (P b % 10) 1 ≤ 5 * 9 := Int.mul_le_mul (by omega) (by omega) (by omega) (by omega)
  have m3 : 1 * 1 ≤ B b 2 * W (P b % 10) 1 * (shk nb W B P b + 1) := Int.mul_le_mul (by omega) (by omega) (by omega) (by omega)
  have m4 : B b 2 * W (P b % 10) 1 * (shk nb W B P b + 1) ≤ 45 * 4 := Int.mul_le_mul (by omega) (by omega) (by omega) (by omega)
  omega
