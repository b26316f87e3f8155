/-! bits of ints told as Int -/
theorem and_two_pow (a : Int) (k : Nat) (hk : k < 31) : iI a &&& iI (2 ^ k - 1) = iI (a % 2 ^ k) := by
  apply Int32.toBitVec_inj.mp
  show BitVec.ofInt 32 a &&& BitVec.ofInt 32 (2 ^ k - 1) = BitVec.ofInt 32 (a % 2 ^ k)
  apply BitVec.eq_of_toNat_eq
  have h2 : (2 ^ k : Nat) ≤ 2 ^ 30 := Nat.pow_le_pow_right (by omega) (by omega)
  have h1 : 1 ≤ (2 ^ k : Nat) := Nat.one_le_two_pow
  have e : ((2 : Int) ^ k) = ((2 ^ k : Nat) : Int) := by simp
  rw [BitVec.toNat_and, BitVec.toNat_ofInt, BitVec.toNat_ofInt, BitVec.toNat_ofInt, e]
  have e2 : ((((2 ^ k : Nat) : Int) - 1) % ((2 ^ 32 : Nat) : Int)).toNat = 2 ^ k - 1 := by
    rw [Int.emod_eq_of_lt (by omega) (by omega)]
    omega
  rw [e2, Nat.and_two_pow_sub_one_eq_mod]
  have e3 : (a % ((2 ^ k : Nat) : Int)) % ((2 ^ 32 : Nat) : Int) = a % ((2 ^ k : Nat) : Int) := by
    have := Int.emod_nonneg a (b := ((2 ^ k : Nat) : Int)) (by omega)
    have := Int.emod_lt_of_pos a (b := ((2 ^ k : Nat) : Int)) (by omega)
    exact Int.emod_eq_of_lt (by omega) (by omega)
  rw [e3]
  apply Int.ofNat.inj
  show (((a % ((2 ^ 32 : Nat) : Int)).toNat % 2 ^ k : Nat) : Int) = ((a % ((2 ^ k : Nat) : Int)).toNat : Int)
  rw [Int.natCast_emod, Int.toNat_of_nonneg (Int.emod_nonneg _ (by omega)), Int.toNat_of_nonneg (Int.emod_nonneg _ (by omega))]
  rw [show ((2 ^ 32 : Nat) : Int) = ((2 ^ k : Nat) : Int) * ((2 ^ (32 - k) : Nat) : Int) by rw [← Int.natCast_mul, ← Nat.pow_add, show k + (32 - k) = 32 by omega]]
  exact Int.emod_emod_of_dvd a ⟨_, rfl⟩
theorem sh31 {k : Int} (hk : 0 ≤ k ∧ k < 32) : iI k &&& 31 = iI k := by
  have := and_two_pow k 5 (by omega)
  rw [show (iI (2 ^ 5 - 1)) = (31 : Int32) from rfl] at this
  rw [this]
  congr 1
  omega
theorem shr_z {a k : Int} (ha : -2147483648 ≤ a ∧ a < 2147483648) (hk : 0 ≤ k ∧ k < 32) : iI a >>> (iI k &&& 31) = iI (a / 2 ^ k.toNat) := by
  rw [sh31 hk]
  apply Int32.toInt_inj.mp
  have h1 := iI_toInt ha
  have hkn : (iI k).toBitVec.smod 32 = BitVec.ofNat 32 k.toNat := by
    obtain ⟨n, rfl⟩ := Int.eq_ofNat_of_zero_le hk.1
    have : ∀ m : Nat, m < 32 → (iI (m : Int)).toBitVec.smod 32 = BitVec.ofNat 32 m := by decide
    exact this n (by omega)
  show ((iI a).toBitVec.sshiftRight ((iI k).toBitVec.smod 32).toNat).toInt = _
  rw [hkn, BitVec.toInt_sshiftRight, show (BitVec.ofNat 32 k.toNat).toNat = k.toNat by rw [BitVec.toNat_ofNat]; omega]
  show (iI a).toInt >>> k.toNat = _
  rw [h1, Int.shiftRight_eq_div_pow]
  have hp : (1 : Int) ≤ 2 ^ k.toNat := by
    have e : ((2 : Int) ^ k.toNat) = ((2 ^ k.toNat : Nat) : Int) := by simp
    have := Nat.one_le_two_pow (n := k.toNat)
    omega
  rw [show ((2 ^ k.toNat : Nat) : Int) = (2 : Int) ^ k.toNat by simp]
  have l1 : a / 2 ^ k.toNat < 2147483648 := by
    have : a / 2 ^ k.toNat ≤ max a 0 := by
      by_cases h0 : 0 ≤ a
      · have := Int.ediv_le_self (2 ^ k.toNat) h0; omega
      · have := Int.ediv_neg_of_neg_of_pos (a := a) (b := 2 ^ k.toNat) (by omega) (by omega); omega
    omega
  have l2 : -2147483648 ≤ a / 2 ^ k.toNat := by
    apply (Int.le_ediv_iff_mul_le (by omega)).mpr
    by_cases h0 : 2 ^ k.toNat = (1 : Int)
    · rw [h0]; omega
    · have : -2147483648 * (2 : Int) ^ k.toNat ≤ -2147483648 * 1 := Int.mul_le_mul_of_nonpos_left (by omega) (by omega)
      omega
  rw [iI_toInt ⟨l2, l1⟩]
theorem ushr_z {a k : Int} (ha : 0 ≤ a ∧ a < 2147483648) (hk : 0 ≤ k ∧ k < 32) : ((iI a).toUInt32 >>> ((iI k).toUInt32 &&& Int32.toUInt32 31)).toInt32 = iI (a / 2 ^ k.toNat) := by
  have h2 : (iI k).toUInt32 &&& Int32.toUInt32 31 = UInt32.ofNat k.toNat := by
    obtain ⟨n, rfl⟩ := Int.eq_ofNat_of_zero_le hk.1
    have : ∀ m : Nat, m < 32 → (iI (m : Int)).toUInt32 &&& Int32.toUInt32 31 = UInt32.ofNat m := by decide
    exact this n (by omega)
  rw [h2]
  obtain ⟨b, rfl⟩ := Int.eq_ofNat_of_zero_le ha.1
  apply Int32.toBitVec_inj.mp
  apply BitVec.eq_of_toNat_eq
  have hb : (iI (b : Int)).toUInt32.toNat = b := by
    show (BitVec.ofInt 32 (b : Int)).toNat = b
    rw [BitVec.ofInt_natCast, BitVec.toNat_ofNat]
    omega
  show ((iI (b : Int)).toUInt32 >>> UInt32.ofNat k.toNat).toNat = (BitVec.ofInt 32 _).toNat
  rw [UInt32.toNat_shiftRight, hb, UInt32.toNat_ofNat', show ((b : Int) / 2 ^ k.toNat) = ((b / 2 ^ k.toNat : Nat) : Int) by simp, BitVec.ofInt_natCast, BitVec.toNat_ofNat, Nat.shiftRight_eq_div_pow]
  rw [show k.toNat % 2 ^ 32 % 32 = k.toNat by omega]
  have h9 : b / 2 ^ k.toNat ≤ b := Nat.div_le_self _ _
  exact (Nat.mod_eq_of_lt (by omega)).symm
theorem shl1_z {k : Int} (hk : 0 ≤ k ∧ k < 31) : iI 1 <<< (iI k &&& 31) = iI (2 ^ k.toNat) := by
  obtain ⟨n, rfl⟩ := Int.eq_ofNat_of_zero_le hk.1
  have : ∀ m : Nat, m < 31 → iI 1 <<< (iI (m : Int) &&& 31) = iI (2 ^ m) := by decide
  exact this n (by omega)
section RQBits
variable {K : PK} {d own : Nat} {ini : Bool} {rt : Option FieldType} {cd : PC} {pc : Nat} {L : PL} {st : List Value} {g : PG} {Q : Option Value → PG → Prop}
theorem RQ.iandm {len : Nat} (k : Nat) {a m p : Int} {x y : Int32} (hf : pfetch cd pc = some (.iand, len)) (hx : x = iI a) (hy : y = iI m) (hk : k < 31) (hm : m = 2 ^ k - 1) (hp : 2 ^ k = p) (c : RQ K d own ini rt cd (pc + 1) L (.int (iI (a % p)) :: st) g Q) : RQ K d own ini rt cd pc L (.int y :: .int x :: st) g Q := by
  subst hx hy hm hp
  refine RQ.step hf (S := (pc + 1, L, .int (iI a &&& iI (2 ^ k - 1)) :: st, g)) rfl ?_
  rw [and_two_pow a k hk]
  exact c
theorem RQ.ishr {len : Nat} {a b p : Int} {x y : Int32} (hf : pfetch cd pc = some (.ishr, len)) (hx : x = iI a) (hy : y = iI b) (ha : -2147483648 ≤ a ∧ a < 2147483648) (hb : 0 ≤ b ∧ b < 32) (hp : 2 ^ b.toNat = p) (c : RQ K d own ini rt cd (pc + 1) L (.int (iI (a / p)) :: st) g Q) : RQ K d own ini rt cd pc L (.int y :: .int x :: st) g Q := by
  subst hx hy hp
  refine RQ.step hf (S := (pc + 1, L, .int (iI a >>> (iI b &&& 31)) :: st, g)) rfl ?_
  rw [shr_z ha hb]
  exact c
theorem RQ.iushr {len : Nat} {a b p : Int} {x y : Int32} (hf : pfetch cd pc = some (.iushr, len)) (hx : x = iI a) (hy : y = iI b) (ha : 0 ≤ a ∧ a < 2147483648) (hb : 0 ≤ b ∧ b < 32) (hp : 2 ^ b.toNat = p) (c : RQ K d own ini rt cd (pc + 1) L (.int (iI (a / p)) :: st) g Q) : RQ K d own ini rt cd pc L (.int y :: .int x :: st) g Q := by
  subst hx hy hp
  refine RQ.step hf (S := (pc + 1, L, .int (((iI a).toUInt32 >>> ((iI b).toUInt32 &&& Int32.toUInt32 31)).toInt32) :: st, g)) rfl ?_
  rw [ushr_z ha hb]
  exact c
theorem RQ.ishl1 {len : Nat} {b : Int} {x y : Int32} (hf : pfetch cd pc = some (.ishl, len)) (hx : x = iI 1) (hy : y = iI b) (hb : 0 ≤ b ∧ b < 31) (c : RQ K d own ini rt cd (pc + 1) L (.int (iI (2 ^ b.toNat)) :: st) g Q) : RQ K d own ini rt cd pc L (.int y :: .int x :: st) g Q := by
  subst hx hy
  refine RQ.step hf (S := (pc + 1, L, .int (iI 1 <<< (iI b &&& 31)) :: st, g)) rfl ?_
  rw [shl1_z hb]
  exact c
end RQBits
