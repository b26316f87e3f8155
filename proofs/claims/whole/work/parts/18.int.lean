/-! ints as Int: iI z is the int that z is modulo 2^32 -/
def iI (z : Int) : Int32 := Int32.ofInt z
theorem iI_add (a b : Int) : iI a + iI b = iI (a + b) := (Int32.ofInt_add ..).symm
theorem iI_sub (a b : Int) : iI a - iI b = iI (a - b) := (Int32.ofInt_sub ..).symm
theorem iI_mul (a b : Int) : iI a * iI b = iI (a * b) := (Int32.ofInt_mul ..).symm
theorem iI_neg (a : Int) : -iI a = iI (-a) := (Int32.ofInt_neg ..).symm
theorem iI_nI (n : Nat) : nI n = iI n := by
  apply Int32.toBitVec_inj.mp
  show BitVec.ofNat 32 n = BitVec.ofInt 32 n
  exact (BitVec.ofInt_natCast 32 n).symm
theorem iI_toInt {z : Int} (h : -2147483648 ≤ z ∧ z < 2147483648) : (iI z).toInt = z := by
  unfold iI
  rw [Int32.toInt_ofInt]
  show Int.bmod z 4294967296 = z
  rw [Int.bmod_def]
  omega
theorem iI_of (x : Int32) : iI x.toInt = x := Int32.ofInt_toInt x
theorem iI_ran (x : Int32) : -2147483648 ≤ x.toInt ∧ x.toInt < 2147483648 := ⟨Int32.le_toInt x, Int32.toInt_lt x⟩
theorem iI_ex (x : Int32) : ∃ z : Int, x = iI z ∧ -2147483648 ≤ z ∧ z < 2147483648 := ⟨x.toInt, (iI_of x).symm, iI_ran x⟩
theorem iI_inj {a b : Int} (ha : -2147483648 ≤ a ∧ a < 2147483648) (hb : -2147483648 ≤ b ∧ b < 2147483648) : iI a = iI b ↔ a = b := by
  constructor
  · intro h
    rw [← iI_toInt ha, ← iI_toInt hb, h]
  · rintro rfl; rfl
theorem iI_lt {a b : Int} (ha : -2147483648 ≤ a ∧ a < 2147483648) (hb : -2147483648 ≤ b ∧ b < 2147483648) : iI a < iI b ↔ a < b := by
  rw [Int32.lt_iff_toInt_lt, iI_toInt ha, iI_toInt hb]
theorem iI_le {a b : Int} (ha : -2147483648 ≤ a ∧ a < 2147483648) (hb : -2147483648 ≤ b ∧ b < 2147483648) : iI a ≤ iI b ↔ a ≤ b := by
  rw [Int32.le_iff_toInt_le, iI_toInt ha, iI_toInt hb]
def iR (z : Int) : Prop := -2147483648 ≤ z ∧ z < 2147483648
def zcmp (c : ClassFile.Cond) (a b : Int) : Prop := match c with
  | .eq => a = b
  | .ne => a ≠ b
  | .lt => a < b
  | .ge => b ≤ a
  | .gt => b < a
  | .le => a ≤ b
theorem icmp_z {c : ClassFile.Cond} {a b : Int} (ha : -2147483648 ≤ a ∧ a < 2147483648) (hb : -2147483648 ≤ b ∧ b < 2147483648) : icmp c (iI a) (iI b) = true ↔ zcmp c a b := by
  cases c
  · show decide _ = true ↔ _; rw [decide_eq_true_iff]; exact iI_inj ha hb
  · show decide _ = true ↔ _; rw [decide_eq_true_iff]; exact not_congr (iI_inj ha hb)
  · show decide _ = true ↔ _; rw [decide_eq_true_iff]; exact iI_lt ha hb
  · show decide _ = true ↔ _; rw [decide_eq_true_iff]; exact iI_le hb ha
  · show decide _ = true ↔ _; rw [decide_eq_true_iff]; exact iI_lt hb ha
  · show decide _ = true ↔ _; rw [decide_eq_true_iff]; exact iI_le ha hb
theorem test_lit : (ilit 5, ilit (-7), ilit 0) = (iI 5, iI (-7), iI 0) := rfl
theorem iI_0 : iI 0 = 0 := rfl
theorem iI_clamp {z : Int} (h : 0 ≤ z ∧ z < 2147483648) : (iI z).toNatClampNeg = z.toNat := by
  unfold Int32.toNatClampNeg
  rw [iI_toInt (by omega)]
theorem pin_z {z : Int} {n : Nat} (h : 0 ≤ z ∧ z < n) (hn : n < 2147483648) : pin (iI z) n = true := by
  unfold pin
  apply decide_eq_true
  rw [iI_clamp (by omega), ← iI_0, iI_lt (by omega) (by omega)]
  omega
/-- an array of ints told by Ints -/
def zA (f : Int → Int) : Nat → Int32 := fun j => iI (f j)
def usz (f : Int → Int) (k v : Int) : Int → Int := fun j => if j = k then v else f j
theorem zA_at {f : Int → Int} {z : Int} (h : 0 ≤ z) : zA f z.toNat = iI (f z) := by
  show iI (f (z.toNat : Int)) = _
  rw [Int.toNat_of_nonneg h]
theorem zA_up {f : Int → Int} {z v : Int} (h : 0 ≤ z) : upd (zA f) z.toNat (iI v) = zA (usz f z v) := by
  funext j
  unfold upd zA usz
  by_cases e : j = z.toNat
  · rw [if_pos e, if_pos (by omega)]
  · rw [if_neg e, if_neg (by omega)]
theorem usz_s (f : Int → Int) (k v : Int) : usz f k v k = v := if_pos rfl
theorem usz_n {f : Int → Int} {k v j : Int} (h : j ≠ k) : usz f k v j = f j := if_neg h
