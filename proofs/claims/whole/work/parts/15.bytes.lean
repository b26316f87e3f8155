def bt (x : Int32) (i : Nat) : Bool := x.toBitVec.getLsbD i
theorem b_ext {x y : Int32} (h : ∀ i, i < 32 → bt x i = bt y i) : x = y := Int32.toBitVec_inj.mp (BitVec.eq_of_getLsbD_eq (fun i hi => h i hi))
theorem b_or (x y : Int32) (i : Nat) : bt (x ||| y) i = (bt x i || bt y i) := by unfold bt; rw [Int32.toBitVec_or, BitVec.getLsbD_or]
theorem b_and (x y : Int32) (i : Nat) : bt (x &&& y) i = (bt x i && bt y i) := by unfold bt; rw [Int32.toBitVec_and, BitVec.getLsbD_and]
theorem b_xor (x y : Int32) (i : Nat) : bt (x ^^^ y) i = (bt x i ^^ bt y i) := by unfold bt; rw [Int32.toBitVec_xor, BitVec.getLsbD_xor]
theorem b_big {x : Int32} {i : Nat} (h : 32 ≤ i) : bt x i = false := BitVec.getLsbD_of_ge _ _ h
theorem b_255 (i : Nat) : bt 255 i = decide (i < 8) := by
  rcases Nat.lt_or_ge i 32 with h | h
  · exact (by decide +kernel : ∀ i, i < 32 → bt 255 i = decide (i < 8)) i h
  · rw [b_big h, decide_eq_false (by omega)]
theorem b_65535 (i : Nat) : bt 65535 i = decide (i < 16) := by
  rcases Nat.lt_or_ge i 32 with h | h
  · exact (by decide +kernel : ∀ i, i < 32 → bt 65535 i = decide (i < 16)) i h
  · rw [b_big h, decide_eq_false (by omega)]
theorem b_m1 : ∀ i, i < 32 → bt (-1) i = true := by decide +kernel
theorem b_0 (i : Nat) : bt 0 i = false := BitVec.getLsbD_zero
theorem s_l : ∀ n, n < 32 → ((nI n &&& 31).toBitVec.smod 32).toNat = n := by decide +kernel
theorem s_u : ∀ n, n < 32 → (((nI n).toUInt32 &&& Int32.toUInt32 31).toBitVec % 32).toNat = n := by decide +kernel
theorem b_shl (n : Nat) (hn : n < 32) (x : Int32) {i : Nat} (hi : i < 32) : bt (x <<< (nI n &&& 31)) i = (decide (n ≤ i) && bt x (i - n)) := by
  unfold bt
  rw [Int32.toBitVec_shiftLeft]
  show (x.toBitVec <<< ((nI n &&& 31).toBitVec.smod 32).toNat).getLsbD i = _
  rw [s_l n hn, BitVec.getLsbD_shiftLeft]
  rcases Nat.lt_or_ge i n with h | h
  · simp [h, Nat.not_le.mpr h]
  · simp [hi, h, Nat.not_lt.mpr h]
theorem b_ushr (n : Nat) (hn : n < 32) (x : Int32) (i : Nat) : bt ((x.toUInt32 >>> ((nI n).toUInt32 &&& Int32.toUInt32 31)).toInt32) i = bt x (n + i) := by
  show (x.toUInt32 >>> ((nI n).toUInt32 &&& Int32.toUInt32 31)).toBitVec.getLsbD i = x.toUInt32.toBitVec.getLsbD (n + i)
  rw [UInt32.toBitVec_shiftRight]
  show (x.toUInt32.toBitVec >>> (((nI n).toUInt32 &&& Int32.toUInt32 31).toBitVec % 32).toNat).getLsbD i = _
  rw [s_u n hn, BitVec.getLsbD_ushiftRight]
theorem b_sshr (n : Nat) (hn : n < 32) (x : Int32) {i : Nat} (hi : i < 32) : bt (x >>> (nI n &&& 31)) i = if n + i < 32 then bt x (n + i) else bt x 31 := by
  unfold bt
  rw [Int32.toBitVec_shiftRight]
  show (x.toBitVec.sshiftRight ((nI n &&& 31).toBitVec.smod 32).toNat).getLsbD i = _
  rw [s_l n hn, BitVec.getLsbD_sshiftRight, BitVec.msb_eq_getLsbD_last]
  simp [hi]

/-! bytes of an int, and small rows on updates -/
theorem usc_eq {α : Type} {f : Nat → α} {k : Nat} {v : α} (h : f k = v) : usc f k v = f := by
  funext j
  unfold usc
  cases hb : Nat.beq j k with
  | true => rw [Nat.eq_of_beq_eq_true hb]; exact h.symm
  | false => rfl
theorem usc_usc {α : Type} (f : Nat → α) (k : Nat) (a b : α) : usc (usc f k a) k b = usc f k b := by
  funext j
  unfold usc
  cases hb : Nat.beq j k with
  | true => rfl
  | false => rfl
/-- the byte j (0 the lowest) of an int -/
def by8 (v : Int32) (j : Nat) : Nat := (v.toBitVec.toNat >>> (8 * j)) % 256
theorem by8_lt (v : Int32) (j : Nat) : by8 v j < 256 := Nat.mod_lt _ (by decide)
theorem bt_nI (n i : Nat) (hi : i < 32) : bt (nI n) i = n.testBit i := by
  show (BitVec.ofNat 32 n).getLsbD i = n.testBit i
  rw [BitVec.getLsbD_ofNat]
  simp [hi]
theorem bt_by8 (v : Int32) (j i : Nat) : (by8 v j).testBit i = (decide (i < 8) && bt v (8 * j + i)) := by
  unfold by8
  rw [show (256 : Nat) = 2 ^ 8 from rfl, Nat.testBit_mod_two_pow, Nat.testBit_shiftRight]
  rfl
theorem nI255 : nI 255 = 255 := rfl
theorem sh_s (v : Int32) {j : Nat} (hj : j < 4) : (v >>> (nI (8 * j) &&& 31)) &&& nI 255 = nI (by8 v j) := by
  apply b_ext
  intro i hi
  rw [b_and, nI255, b_255, b_sshr (8 * j) (by omega) v hi, bt_nI _ _ hi, bt_by8]
  by_cases h8 : i < 8
  · rw [if_pos (by omega), decide_eq_true h8, Bool.and_true, Bool.true_and]
  · rw [decide_eq_false h8, Bool.and_false, Bool.false_and]
theorem sh_u (v : Int32) {j : Nat} (hj : j < 4) : (v.toUInt32 >>> ((nI (8 * j)).toUInt32 &&& Int32.toUInt32 31)).toInt32 &&& nI 255 = nI (by8 v j) := by
  apply b_ext
  intro i hi
  rw [b_and, nI255, b_255, b_ushr (8 * j) (by omega) v i, bt_nI _ _ hi, bt_by8, Bool.and_comm]
theorem to8_and (x : Int32) : x.toInt8.toInt32 = (x &&& 255).toInt8.toInt32 := by
  have e : x.toInt8 = (x &&& 255).toInt8 := by
    apply Int8.toBitVec_inj.mp
    apply BitVec.eq_of_getLsbD_eq
    intro i hi
    show (x.toBitVec.signExtend 8).getLsbD i = ((x &&& 255).toBitVec.signExtend 8).getLsbD i
    rw [BitVec.getLsbD_signExtend, BitVec.getLsbD_signExtend]
    simp only [hi, decide_true, Bool.true_and]
    rw [if_pos (by omega), if_pos (by omega)]
    show bt x i = bt (x &&& 255) i
    rw [b_and, b_255, decide_eq_true hi, Bool.and_true]
  rw [e]
theorem sh_b (v : Int32) {j : Nat} (hj : j < 4) : (v >>> (nI (8 * j) &&& 31)).toInt8.toInt32 = sb_b (by8 v j) := by
  rw [to8_and]
  have := sh_s v hj
  rw [nI255] at this
  rw [this]
  rfl
/-- the counter of the loops over four bytes: 24, 16, 8, 0, and -8 behind them -/
def kk : Nat → Int32
  | 0 => -nI 8
  | j + 1 => nI (8 * j)
theorem kk_step (j : Nat) : kk (j + 1) + -nI 8 = kk j := by
  cases j with
  | zero => rfl
  | succ j =>
    show nI (8 * (j + 1)) + -nI 8 = nI (8 * j)
    rw [show 8 * (j + 1) = 8 * j + 8 by omega, ← nI_add, Int32.add_assoc, show nI 8 + -nI 8 = 0 from rfl, Int32.add_zero]
theorem kk_lt {j : Nat} (h : j < 4) : icmp .lt (kk (j + 1)) 0 = false := by
  show decide (nI (8 * j) < 0) = false
  exact decide_eq_false (nI_pos (by omega))
/-- the bytes of an int that are not 0, the highest first, of those below byte j -/
def bys (v : Int32) : Nat → List Nat
  | 0 => []
  | j + 1 => if by8 v j = 0 then bys v j else by8 v j :: bys v j
theorem bys_len (v : Int32) : ∀ j, (bys v j).length ≤ j
  | 0 => Nat.le_refl _
  | j + 1 => by
    unfold bys
    have := bys_len v j
    split
    · omega
    · rw [List.length_cons]; omega
theorem nI_z {n : Nat} (h : n < 2 ^ 31) : nI n = 0 ↔ n = 0 := by
  rw [← nI_0]
  exact nI_eq h (by decide)
