/-! reading with a name for what is read; bits set -/
section RQMore
variable {K : PK} {d own : Nat} {ini : Bool} {rt : Option FieldType} {cd : PC} {pc : Nat} {L : PL} {st : List Value} {g : PG} {Q : Option Value → PG → Prop}
theorem RQ.ialdv {len a n : Nat} {f : Int → Int} {z v : Int} {x : Int32} (hf : pfetch cd pc = some (.iaload, len)) (hx : x = iI z) (ha : g.1[a]? = some (.inl (0, n, .inl (zA f)))) (hi : 0 ≤ z ∧ z < n) (hn : n < 2147483648) (hv : f z = v) (k : RQ K d own ini rt cd (pc + 1) L (.int (iI v) :: st) g Q) : RQ K d own ini rt cd pc L (.int x :: .ref a :: st) g Q := by
  subst hv
  exact RQ.iald hf hx ha hi hn k
theorem RQ.baldv {len a n : Nat} {f : Int → Int} {z v : Int} {x : Int32} (hf : pfetch cd pc = some (.baload, len)) (hx : x = iI z) (ha : g.1[a]? = some (.inl (1, n, .inl (zA f)))) (hi : 0 ≤ z ∧ z < n) (hn : n < 2147483648) (hv : f z = v) (k : RQ K d own ini rt cd (pc + 1) L (.int (iI v) :: st) g Q) : RQ K d own ini rt cd pc L (.int x :: .ref a :: st) g Q := by
  subst hv
  exact RQ.bald hf hx ha hi hn k
/-- bit b of x set -/
def orz (x b : Int) : Int := if (x / 2 ^ b.toNat) % 2 = 1 then x else x + 2 ^ b.toNat
theorem orz_z {x b : Int} (hx : 0 ≤ x ∧ x < 16) (hb : 0 ≤ b ∧ b < 4) : iI x ||| iI (2 ^ b.toNat) = iI (orz x b) := by
  obtain ⟨m, rfl⟩ := Int.eq_ofNat_of_zero_le hx.1
  obtain ⟨n, rfl⟩ := Int.eq_ofNat_of_zero_le hb.1
  have : ∀ m : Nat, m < 16 → ∀ n : Nat, n < 4 → iI (m : Int) ||| iI (2 ^ (n : Int).toNat) = iI (orz m n) := by decide
  exact this m (by omega) n (by omega)
theorem orz_r {x b : Int} (hx : 0 ≤ x ∧ x < 16) (hb : 0 ≤ b ∧ b < 4) : 0 ≤ orz x b ∧ orz x b < 16 := by
  obtain ⟨m, rfl⟩ := Int.eq_ofNat_of_zero_le hx.1
  obtain ⟨n, rfl⟩ := Int.eq_ofNat_of_zero_le hb.1
  have : ∀ m : Nat, m < 16 → ∀ n : Nat, n < 4 → 0 ≤ orz m n ∧ orz m n < 16 := by decide
  exact this m (by omega) n (by omega)
theorem RQ.ior {len : Nat} {a b : Int} {x y : Int32} (hf : pfetch cd pc = some (.ior, len)) (hx : x = iI a) (hy : y = iI (2 ^ b.toNat)) (ha : 0 ≤ a ∧ a < 16) (hb : 0 ≤ b ∧ b < 4) (c : RQ K d own ini rt cd (pc + 1) L (.int (iI (orz a b)) :: st) g Q) : RQ K d own ini rt cd pc L (.int y :: .int x :: st) g Q := by
  subst hx hy
  refine RQ.step hf (S := (pc + 1, L, .int (iI a ||| iI (2 ^ b.toNat)) :: st, g)) rfl ?_
  rw [orz_z ha hb]
  exact c
theorem RQ.ior0 {len : Nat} {a : Int} {x y : Int32} (hf : pfetch cd pc = some (.ior, len)) (hx : x = iI a) (hy : y = iI 0) (c : RQ K d own ini rt cd (pc + 1) L (.int (iI a) :: st) g Q) : RQ K d own ini rt cd pc L (.int y :: .int x :: st) g Q := by
  subst hx hy
  refine RQ.step hf (S := (pc + 1, L, .int (iI a ||| iI 0) :: st, g)) rfl ?_
  rw [iI_0, Int32.or_zero]
  exact c
theorem RQ.hp {g1 : PG} (hg : g = g1) (c : RQ K d own ini rt cd pc L st g1 Q) : RQ K d own ini rt cd pc L st g Q := by
  subst hg
  exact c
end RQMore
