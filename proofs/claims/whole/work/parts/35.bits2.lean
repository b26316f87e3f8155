/-! more bits: disjoint or, shifts, single bits, marks -/
theorem iI_nat (n : Nat) : (iI (n : Int)).toBitVec = BitVec.ofNat 32 n := BitVec.ofInt_natCast 32 n
theorem iI_or (m n : Nat) : iI (m : Int) ||| iI (n : Int) = iI ((m ||| n : Nat) : Int) := by
  apply Int32.toBitVec_inj.mp
  show (iI (m : Int)).toBitVec ||| (iI (n : Int)).toBitVec = _
  rw [iI_nat, iI_nat, iI_nat, BitVec.ofNat_or]
theorem iI_and (m n : Nat) : iI (m : Int) &&& iI (n : Int) = iI ((m &&& n : Nat) : Int) := by
  apply Int32.toBitVec_inj.mp
  show (iI (m : Int)).toBitVec &&& (iI (n : Int)).toBitVec = _
  rw [iI_nat, iI_nat, iI_nat, BitVec.ofNat_and]
theorem or_disj {a c p : Int} (k : Nat) (hp : (2 : Int) ^ k = p) (ha : 0 ≤ a ∧ a < p) (hc : 0 ≤ c) : iI a ||| iI (c * p) = iI (a + c * p) := by
  obtain ⟨m, rfl⟩ := Int.eq_ofNat_of_zero_le ha.1
  obtain ⟨n, rfl⟩ := Int.eq_ofNat_of_zero_le hc
  have e : p = ((2 ^ k : Nat) : Int) := by rw [← hp]; simp
  subst e
  have h1 : m < 2 ^ k := by omega
  rw [← Int.natCast_mul, iI_or, Nat.or_comm, Nat.mul_comm n, ← Nat.two_pow_add_eq_or_of_lt h1 n]
  congr 1
  rw [Int.natCast_add]
  omega
theorem shl_z {a b p : Int} (hb : 0 ≤ b ∧ b < 32) (hp : (2 : Int) ^ b.toNat = p) : iI a <<< (iI b &&& 31) = iI (a * p) := by
  rw [sh31 hb]
  apply Int32.toBitVec_inj.mp
  have hkn : (iI b).toBitVec.smod 32 = BitVec.ofNat 32 b.toNat := by
    obtain ⟨n, rfl⟩ := Int.eq_ofNat_of_zero_le hb.1
    have : ∀ m : Nat, m < 32 → (iI (m : Int)).toBitVec.smod 32 = BitVec.ofNat 32 m := by decide
    exact this n (by omega)
  show (iI a).toBitVec <<< ((iI b).toBitVec.smod 32) = _
  rw [hkn, BitVec.shiftLeft_eq', BitVec.toNat_ofNat, Nat.mod_eq_of_lt (by omega), BitVec.shiftLeft_eq_mul_twoPow]
  show BitVec.ofInt 32 a * _ = BitVec.ofInt 32 (a * p)
  rw [BitVec.ofInt_mul]
  congr 1
  rw [← hp, show (2 : Int) ^ b.toNat = ((2 ^ b.toNat : Nat) : Int) by simp, BitVec.ofInt_natCast]
  apply BitVec.eq_of_toNat_eq
  rw [BitVec.toNat_twoPow, BitVec.toNat_ofNat]
theorem nat_and_pow (n k : Nat) : n &&& 2 ^ k = n / 2 ^ k % 2 * 2 ^ k := by
  apply Nat.eq_of_testBit_eq
  intro j
  rw [Nat.testBit_and, Nat.testBit_two_pow]
  have e := Nat.testBit_eq_decide_div_mod_eq (x := n) (i := k)
  rcases (show n / 2 ^ k % 2 = 0 ∨ n / 2 ^ k % 2 = 1 by omega) with h | h
  · rw [h] at e ⊢
    rw [Nat.zero_mul, Nat.zero_testBit]
    by_cases hj : k = j
    · subst hj; rw [e]; rfl
    · rw [decide_eq_false hj, Bool.and_false]
  · rw [h] at e ⊢
    rw [Nat.one_mul, Nat.testBit_two_pow]
    by_cases hj : k = j
    · subst hj; rw [e]; rfl
    · rw [decide_eq_false hj, Bool.and_false]
theorem and_pow {a p : Int} (k : Nat) (hp : (2 : Int) ^ k = p) (ha : 0 ≤ a) : iI a &&& iI p = iI (a / p % 2 * p) := by
  obtain ⟨m, rfl⟩ := Int.eq_ofNat_of_zero_le ha
  have e : p = ((2 ^ k : Nat) : Int) := by rw [← hp]; simp
  subst e
  rw [iI_and, nat_and_pow]
  congr 1
theorem and_808080 {a : Int} (ha : 0 ≤ a) : iI a &&& iI 8421504 = iI (a / 128 % 2 * 128 + a / 32768 % 2 * 32768 + a / 8388608 % 2 * 8388608) := by
  obtain ⟨m, rfl⟩ := Int.eq_ofNat_of_zero_le ha
  rw [show (8421504 : Int) = ((2 ^ 7 ||| 2 ^ 15 ||| 2 ^ 23 : Nat) : Int) from rfl, iI_and, Nat.and_or_distrib_left, Nat.and_or_distrib_left, nat_and_pow, nat_and_pow, nat_and_pow]
  congr 1
  have aux : ∀ i < 2, ∀ j < 2, ∀ k < 2, (i * 2 ^ 7 ||| j * 2 ^ 15 ||| k * 2 ^ 23) = i * 128 + j * 32768 + k * 8388608 := by decide
  rw [aux _ (Nat.mod_lt _ (by omega)) _ (Nat.mod_lt _ (by omega)) _ (Nat.mod_lt _ (by omega))]
  omega
/-- an outcome with its two marks -/
abbrev pkm (o r e : Int) : Int := o + r * 16777216 + e * 33554432
theorem nat_pkm {o r e : Nat} (ho : o < 16777216) (hr : r ≤ 1) : 2 ^ 25 * e ||| (2 ^ 24 * r ||| o) = o + r * 16777216 + e * 33554432 := by
  rw [← Nat.two_pow_add_eq_or_of_lt (i := 24) (by omega) r, ← Nat.two_pow_add_eq_or_of_lt (i := 25) (by omega) e]
  omega
theorem mark_r1 {o r e : Int} (ho : 0 ≤ o ∧ o < 16777216) (hr : 0 ≤ r ∧ r ≤ 1) (he : 0 ≤ e ∧ e ≤ 1) : iI (pkm o r e) ||| iI 16777216 = iI (pkm o 1 e) := by
  obtain ⟨o, rfl⟩ := Int.eq_ofNat_of_zero_le ho.1
  obtain ⟨r, rfl⟩ := Int.eq_ofNat_of_zero_le hr.1
  obtain ⟨e, rfl⟩ := Int.eq_ofNat_of_zero_le he.1
  rw [show pkm (o : Int) (r : Int) (e : Int) = ((o + r * 16777216 + e * 33554432 : Nat) : Int) by unfold pkm; omega, show pkm (o : Int) 1 (e : Int) = ((o + 1 * 16777216 + e * 33554432 : Nat) : Int) by unfold pkm; omega, show (16777216 : Int) = ((2 ^ 24 * 1 : Nat) : Int) from rfl, iI_or, ← nat_pkm (by omega) (by omega), ← nat_pkm (by omega) (by omega)]
  congr 2
  rcases (show r = 0 ∨ r = 1 by omega) with rfl | rfl
  · rw [Nat.mul_zero, Nat.zero_or, Nat.or_assoc, Nat.or_comm o]
  · rw [Nat.or_assoc, Nat.or_assoc, Nat.or_comm o, ← Nat.or_assoc (2 ^ 24 * 1), Nat.or_self]
theorem mark_e1 {o r e : Int} (ho : 0 ≤ o ∧ o < 16777216) (hr : 0 ≤ r ∧ r ≤ 1) (he : 0 ≤ e ∧ e ≤ 1) : iI (pkm o r e) ||| iI 33554432 = iI (pkm o r 1) := by
  obtain ⟨o, rfl⟩ := Int.eq_ofNat_of_zero_le ho.1
  obtain ⟨r, rfl⟩ := Int.eq_ofNat_of_zero_le hr.1
  obtain ⟨e, rfl⟩ := Int.eq_ofNat_of_zero_le he.1
  rw [show pkm (o : Int) (r : Int) (e : Int) = ((o + r * 16777216 + e * 33554432 : Nat) : Int) by unfold pkm; omega, show pkm (o : Int) (r : Int) 1 = ((o + r * 16777216 + 1 * 33554432 : Nat) : Int) by unfold pkm; omega, show (33554432 : Int) = ((2 ^ 25 * 1 : Nat) : Int) from rfl, iI_or, ← nat_pkm (by omega) (by omega), ← nat_pkm (by omega) (by omega)]
  congr 2
  rcases (show e = 0 ∨ e = 1 by omega) with rfl | rfl
  · rw [Nat.mul_zero, Nat.zero_or, Nat.or_comm]
  · rw [Nat.or_comm, ← Nat.or_assoc, Nat.or_self]
theorem nat_low {o : Nat} (ho : o < 2 ^ 24) (m : Nat) (hm : (2 ^ 24 - 1) &&& m = 2 ^ 24 - 1) : o &&& m = o := by
  have h := Nat.and_two_pow_sub_one_of_lt_two_pow ho
  have : o &&& m = (o &&& (2 ^ 24 - 1)) &&& m := by rw [h]
  rw [this, Nat.and_assoc, hm, h]
theorem mark_r0 {o r e : Int} (ho : 0 ≤ o ∧ o < 16777216) (hr : 0 ≤ r ∧ r ≤ 1) (he : 0 ≤ e ∧ e ≤ 1) : iI (pkm o r e) &&& iI (-16777217) = iI (pkm o 0 e) := by
  obtain ⟨o, rfl⟩ := Int.eq_ofNat_of_zero_le ho.1
  obtain ⟨r, rfl⟩ := Int.eq_ofNat_of_zero_le hr.1
  obtain ⟨e, rfl⟩ := Int.eq_ofNat_of_zero_le he.1
  rw [show pkm (o : Int) (r : Int) (e : Int) = ((o + r * 16777216 + e * 33554432 : Nat) : Int) by unfold pkm; omega, show pkm (o : Int) 0 (e : Int) = ((o + 0 * 16777216 + e * 33554432 : Nat) : Int) by unfold pkm; omega, show iI (-16777217) = iI ((4278190079 : Nat) : Int) from rfl, iI_and, ← nat_pkm (by omega) (by omega), ← nat_pkm (by omega) (by omega), Nat.and_or_distrib_right, Nat.and_or_distrib_right, nat_low (o := o) (by omega) 4278190079 rfl]
  rcases (show r = 0 ∨ r = 1 by omega) with rfl | rfl <;> rcases (show e = 0 ∨ e = 1 by omega) with rfl | rfl <;> rfl
theorem mark_e0 {o r e : Int} (ho : 0 ≤ o ∧ o < 16777216) (hr : 0 ≤ r ∧ r ≤ 1) (he : 0 ≤ e ∧ e ≤ 1) : iI (pkm o r e) &&& iI (-33554433) = iI (pkm o r 0) := by
  obtain ⟨o, rfl⟩ := Int.eq_ofNat_of_zero_le ho.1
  obtain ⟨r, rfl⟩ := Int.eq_ofNat_of_zero_le hr.1
  obtain ⟨e, rfl⟩ := Int.eq_ofNat_of_zero_le he.1
  rw [show pkm (o : Int) (r : Int) (e : Int) = ((o + r * 16777216 + e * 33554432 : Nat) : Int) by unfold pkm; omega, show pkm (o : Int) (r : Int) 0 = ((o + r * 16777216 + 0 * 33554432 : Nat) : Int) by unfold pkm; omega, show iI (-33554433) = iI ((4261412863 : Nat) : Int) from rfl, iI_and, ← nat_pkm (by omega) (by omega), ← nat_pkm (by omega) (by omega), Nat.and_or_distrib_right, Nat.and_or_distrib_right, nat_low (o := o) (by omega) 4261412863 rfl]
  rcases (show r = 0 ∨ r = 1 by omega) with rfl | rfl <;> rcases (show e = 0 ∨ e = 1 by omega) with rfl | rfl <;> rfl
section RQBits2
variable {K : PK} {d own : Nat} {ini : Bool} {rt : Option FieldType} {cd : PC} {pc : Nat} {L : PL} {st : List Value} {g : PG} {Q : Option Value → PG → Prop}
theorem RQ.iord {len : Nat} (k : Nat) {a c p : Int} {x y : Int32} (hf : pfetch cd pc = some (.ior, len)) (hx : x = iI a) (hy : y = iI (c * p)) (hp : (2 : Int) ^ k = p) (ha : 0 ≤ a ∧ a < p) (hc : 0 ≤ c) (t : RQ K d own ini rt cd (pc + 1) L (.int (iI (a + c * p)) :: st) g Q) : RQ K d own ini rt cd pc L (.int y :: .int x :: st) g Q := by
  subst hx hy
  refine RQ.step hf (S := (pc + 1, L, .int (iI a ||| iI (c * p)) :: st, g)) rfl ?_
  rw [or_disj k hp ha hc]
  exact t
theorem RQ.ishlm {len : Nat} {a b p : Int} {x y : Int32} (hf : pfetch cd pc = some (.ishl, len)) (hx : x = iI a) (hy : y = iI b) (hb : 0 ≤ b ∧ b < 32) (hp : (2 : Int) ^ b.toNat = p) (t : RQ K d own ini rt cd (pc + 1) L (.int (iI (a * p)) :: st) g Q) : RQ K d own ini rt cd pc L (.int y :: .int x :: st) g Q := by
  subst hx hy
  refine RQ.step hf (S := (pc + 1, L, .int (iI a <<< (iI b &&& 31)) :: st, g)) rfl ?_
  rw [shl_z hb hp]
  exact t
theorem RQ.iandp {len : Nat} (k : Nat) {a p : Int} {x y : Int32} (hf : pfetch cd pc = some (.iand, len)) (hx : x = iI a) (hy : y = iI p) (hp : (2 : Int) ^ k = p) (ha : 0 ≤ a) (t : RQ K d own ini rt cd (pc + 1) L (.int (iI (a / p % 2 * p)) :: st) g Q) : RQ K d own ini rt cd pc L (.int y :: .int x :: st) g Q := by
  subst hx hy
  refine RQ.step hf (S := (pc + 1, L, .int (iI a &&& iI p) :: st, g)) rfl ?_
  rw [and_pow k hp ha]
  exact t
theorem RQ.iand8 {len : Nat} {a : Int} {x y : Int32} (hf : pfetch cd pc = some (.iand, len)) (hx : x = iI a) (hy : y = iI 8421504) (ha : 0 ≤ a) (t : RQ K d own ini rt cd (pc + 1) L (.int (iI (a / 128 % 2 * 128 + a / 32768 % 2 * 32768 + a / 8388608 % 2 * 8388608)) :: st) g Q) : RQ K d own ini rt cd pc L (.int y :: .int x :: st) g Q := by
  subst hx hy
  refine RQ.step hf (S := (pc + 1, L, .int (iI a &&& iI 8421504) :: st, g)) rfl ?_
  rw [and_808080 ha]
  exact t
/-- any or, any and, told by an equation -/
theorem RQ.iorq {len : Nat} {v : Int} {x y : Int32} (hf : pfetch cd pc = some (.ior, len)) (hq : x ||| y = iI v) (t : RQ K d own ini rt cd (pc + 1) L (.int (iI v) :: st) g Q) : RQ K d own ini rt cd pc L (.int y :: .int x :: st) g Q := by
  refine RQ.step hf (S := (pc + 1, L, .int (x ||| y) :: st, g)) rfl ?_
  rw [hq]
  exact t
theorem RQ.iandq {len : Nat} {v : Int} {x y : Int32} (hf : pfetch cd pc = some (.iand, len)) (hq : x &&& y = iI v) (t : RQ K d own ini rt cd (pc + 1) L (.int (iI v) :: st) g Q) : RQ K d own ini rt cd pc L (.int y :: .int x :: st) g Q := by
  refine RQ.step hf (S := (pc + 1, L, .int (x &&& y) :: st, g)) rfl ?_
  rw [hq]
  exact t
end RQBits2
