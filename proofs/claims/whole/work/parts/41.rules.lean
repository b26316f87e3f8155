/-! more rules, by wip/tools -/
/-! more rules: xor, arraycopy, draws -/
theorem iI_xor (m n : Nat) : iI (m : Int) ^^^ iI (n : Int) = iI ((m ^^^ n : Nat) : Int) := by
  apply Int32.toBitVec_inj.mp
  show (iI (m : Int)).toBitVec ^^^ (iI (n : Int)).toBitVec = _
  rw [iI_nat, iI_nat, iI_nat, BitVec.ofNat_xor]
/-- a copy from the beginning -/
def cpz (f f1 : Int → Int) (n : Int) : Int → Int := fun j => if j < n then f j else f1 j
theorem cpz_l {f f1 : Int → Int} {n j : Int} (h : j < n) : cpz f f1 n j = f j := if_pos h
theorem zA_cpy (f f1 : Int → Int) (n : Nat) : va_cpy (zA f) (zA f1) 0 0 n = zA (cpz f f1 n) := by
  funext j
  show (if 0 ≤ j ∧ j < 0 + n then zA f (0 + (j - 0)) else zA f1 j) = iI (cpz f f1 n j)
  unfold cpz
  by_cases h : j < n
  · rw [if_pos (by omega), if_pos (by omega), Nat.zero_add, Nat.sub_zero]; rfl
  · rw [if_neg (by omega), if_neg (by omega)]; rfl
theorem iI_cl (n : Nat) (h : n < 2147483648) : (iI (n : Int)).toNatClampNeg = n := by
  rw [iI_clamp (by omega)]
  omega
theorem iI_nn (n : Nat) (h : n < 2147483648) : ¬ iI (n : Int) < 0 := by
  rw [← iI_0, iI_lt (by omega) (by omega)]
  omega
section RQMore2
variable {K : PK} {d own : Nat} {ini : Bool} {rt : Option FieldType} {cd : PC} {pc : Nat} {L : PL} {st : List Value} {g : PG} {Q : Option Value → PG → Prop}
theorem RQ.ixorn {len : Nat} {a b : Int} {x y : Int32} (hf : pfetch cd pc = some (.ixor, len)) (hx : x = iI a) (hy : y = iI b) (ha : 0 ≤ a ∧ a < 2147483648) (hb : 0 ≤ b ∧ b < 2147483648) (t : ∀ v : Int, 0 ≤ v → v < 2147483648 → RQ K d own ini rt cd (pc + 1) L (.int (iI v) :: st) g Q) : RQ K d own ini rt cd pc L (.int y :: .int x :: st) g Q := by
  subst hx hy
  refine RQ.step hf (S := (pc + 1, L, .int (iI a ^^^ iI b) :: st, g)) rfl ?_
  obtain ⟨m, rfl⟩ := Int.eq_ofNat_of_zero_le ha.1
  obtain ⟨n, rfl⟩ := Int.eq_ofNat_of_zero_le hb.1
  rw [iI_xor]
  have h := Nat.xor_lt_two_pow (n := 31) (x := m) (y := n) (by omega) (by omega)
  exact t _ (by omega) (by omega)
theorem RQ.acp {len i a b n n0 n1 : Nat} {f f1 : Int → Int} {g1 : PG} (hf : pfetch cd pc = some (.invokestatic i, len)) (hac : acL.elem (own, i) = true) (hw : Nat.ble (pwords st) 8 = true) (ha : g.1[a]? = some (.inl (0, n0, .inl (zA f)))) (hb : g.1[b]? = some (.inl (0, n1, .inl (zA f1)))) (h0 : n ≤ n0) (h1 : n ≤ n1) (hn : n < 2147483648) (hg : (g.1.set b (.inl (0, n1, .inl (zA (cpz f f1 n)))), g.2) = g1) (k : RQ K d own ini rt cd (pc + 3) L st g1 Q) : RQ K d own ini rt cd pc L (.int (iI n) :: .int (iI 0) :: .ref b :: .int (iI 0) :: .ref a :: st) g Q := by
  subst hg
  refine RQ.step hf (S := (pc + 3, L, st, (g.1.set b (.inl (0, n1, .inl (zA (cpz f f1 n)))), g.2))) ?_ k
  show pacp K own i (pc + 3) L g (.int (iI n) :: .int (iI 0) :: .ref b :: .int (iI 0) :: .ref a :: st) = _
  have e0 : (iI 0).toNatClampNeg = 0 := rfl
  have e1 : ¬ iI 0 < 0 := by decide
  have e2 : ¬ iI 0 < 0 ∧ ¬ iI 0 < 0 ∧ ¬ iI (n : Int) < 0 ∧ (0 : Nat) + n ≤ n0 ∧ (0 : Nat) + n ≤ n1 := ⟨e1, e1, iI_nn n hn, by omega, by omega⟩
  simp only [pacp, hac, hw, ha, hb, e0, iI_cl n hn, Bool.and_self, cond_true, if_pos e2, zA_cpy]
theorem RQ.acpk {len i a b n n0 n1 : Nat} {f f1 : Int → Int} {g1 : PG} (hf : pfetch cd pc = some (.invokestatic i, len)) (hac : acL.elem (own, i) = true) (hw : Nat.ble (pwords st) 8 = true) (ha : K a = some (n0, zA f)) (hb : g.1[b]? = some (.inl (0, n1, .inl (zA f1)))) (h0 : n ≤ n0) (h1 : n ≤ n1) (hn : n < 2147483648) (hg : (g.1.set b (.inl (0, n1, .inl (zA (cpz f f1 n)))), g.2) = g1) (k : RQ K d own ini rt cd (pc + 3) L st g1 Q) : RQ K d own ini rt cd pc L (.int (iI n) :: .int (iI 0) :: .ref b :: .int (iI 0) :: .retAddr a :: st) g Q := by
  subst hg
  refine RQ.step hf (S := (pc + 3, L, st, (g.1.set b (.inl (0, n1, .inl (zA (cpz f f1 n)))), g.2))) ?_ k
  show pacp K own i (pc + 3) L g (.int (iI n) :: .int (iI 0) :: .ref b :: .int (iI 0) :: .retAddr a :: st) = _
  have e0 : (iI 0).toNatClampNeg = 0 := rfl
  have e1 : ¬ iI 0 < 0 := by decide
  have e2 : ¬ iI 0 < 0 ∧ ¬ iI 0 < 0 ∧ ¬ iI (n : Int) < 0 ∧ (0 : Nat) + n ≤ n0 ∧ (0 : Nat) + n ≤ n1 := ⟨e1, e1, iI_nn n hn, by omega, by omega⟩
  simp only [pacp, hac, hw, ha, hb, e0, iI_cl n hn, Bool.and_self, cond_true, if_pos e2, zA_cpy]
end RQMore2
/-- draws -/
def nxs (x : Int64) : Int64 := x * lL 6364136223846793005 + lL 1442695040888963407
def ush (x : Int64) : Int64 := (x.toUInt64 >>> ((iI 33).toInt64.toUInt64 &&& Int64.toUInt64 63)).toInt64
def drw (x : Int64) : Int := (ush x).toInt % 28
theorem ush_r (x : Int64) : 0 ≤ (ush x).toInt ∧ (ush x).toInt < 2147483648 := by
  unfold ush
  rw [show ((iI 33).toInt64.toUInt64 &&& Int64.toUInt64 63) = 33 from rfl]
  have h : (x.toUInt64 >>> 33).toNat = x.toUInt64.toNat / 2 ^ 33 := by
    rw [UInt64.toNat_shiftRight]
    show x.toUInt64.toNat >>> 33 = _
    rw [Nat.shiftRight_eq_div_pow]
  have h2 : x.toUInt64.toNat < 2 ^ 64 := x.toUInt64.toNat_lt
  have h4 : (x.toUInt64 >>> 33).toNat < 2 ^ 31 := by rw [h]; omega
  generalize x.toUInt64 >>> 33 = u at h4
  have h3 : u.toInt64.toInt = (u.toNat : Int) := by
    show u.toBitVec.toInt = _
    rw [BitVec.toInt_eq_toNat_of_lt (by show 2 * u.toNat < 2 ^ 64; omega)]
    rfl
  rw [h3]
  omega
theorem drw_r (x : Int64) : 0 ≤ drw x ∧ drw x < 28 := by unfold drw; omega
theorem drw_z (x : Int64) : (ush x - ush x / lL 28 * lL 28).toInt32 = iI (drw x) := by
  have h := ush_r x
  have e : ush x = lL (ush x).toInt := by unfold lL; exact (Int64.ofInt_toInt _).symm
  unfold drw
  generalize (ush x).toInt = z at *
  rw [e]
  have h3 : 0 ≤ z / 28 := Int.ediv_nonneg h.1 (by omega)
  have h4 : z / 28 ≤ z := Int.ediv_le_self _ h.1
  have e2 : lL z / lL 28 = lL (z / 28) := by
    apply Int64.toInt_inj.mp
    rw [Int64.toInt_div, lL_toInt (by omega), lL_toInt (by omega), lL_toInt (by omega), Int.tdiv_eq_ediv_of_nonneg h.1]
    show Int.bmod (z / 28) 18446744073709551616 = _
    rw [Int.bmod_def]
    omega
  rw [e2, lL_mul, lL_sub, lL_32]
  congr 1
  omega
section RQDraw
variable {K : PK} {d own : Nat} {ini : Bool} {rt : Option FieldType} {cd : PC} {pc : Nat} {L : PL} {st : List Value} {g : PG} {Q : Option Value → PG → Prop}
theorem RQ.l2id {len : Nat} {x : Int64} (hf : pfetch cd pc = some (.l2i, len)) (t : RQ K d own ini rt cd (pc + 1) L (.int (iI (drw x)) :: st) g Q) : RQ K d own ini rt cd pc L (.long (ush x - ush x / lL 28 * lL 28) :: st) g Q := by
  refine RQ.step hf (S := (pc + 1, L, .int (ush x - ush x / lL 28 * lL 28).toInt32 :: st, g)) rfl ?_
  rw [drw_z]
  exact t
theorem RQ.lremd {len : Nat} {x : Int64} (hf : pfetch cd pc = some (.lrem, len)) (t : RQ K d own ini rt cd (pc + 1) L (.long (ush x - ush x / lL 28 * lL 28) :: st) g Q) : RQ K d own ini rt cd pc L (.long (lL 28) :: .long (ush x) :: st) g Q := RQ.step hf (S := (pc + 1, L, .long (ush x - ush x / lL 28 * lL 28) :: st, g)) rfl t
end RQDraw
theorem x_min {K : PK} {d : Nat} {g : PG} {a b : Int} (ra : -2147483648 ≤ a ∧ a < 2147483648) (rb : -2147483648 ≤ b ∧ b < 2147483648) : CallR K (d + 1) 241 [.int (iI a), .int (iI b)] g (some (.int (iI (min a b)))) g := by
  apply CQ.x
  refine CQ.of (own := 14) (n := 2) (ini := false) (rt := (some .int)) (cd := cd241) (by decide +kernel) rfl (by decide +kernel) rfl (Nat.le_of_ble_eq_true rfl) ?_
  refine RQ.seg 2 (pc' := 2) (L' := [some (.int (iI a)), some (.int (iI b))]) (st' := [.int (iI b), .int (iI a)]) (g1 := g) rfl ?_
  refine RQ.if2 (a := a) (b := b) rfl rfl rfl rfl (by omega) (by omega) (fun (h1 : b < a) => ?_) (fun (h1 : ¬ b < a) => ?_)
  · skip
    refine RQ.seg 1 (pc' := 10) (L' := [some (.int (iI a)), some (.int (iI b))]) (st' := [.int (iI b)]) (g1 := g) rfl ?_
    refine RQ.ret rfl rfl ?_
    refine ⟨?_, rfl⟩
    congr 3; omega
  · skip
    refine RQ.seg 2 (pc' := 10) (L' := [some (.int (iI a)), some (.int (iI b))]) (st' := [.int (iI a)]) (g1 := g) rfl ?_
    refine RQ.ret rfl rfl ?_
    refine ⟨?_, rfl⟩
    congr 3; omega
theorem x_max {K : PK} {d : Nat} {g : PG} {a b : Int} (ra : -2147483648 ≤ a ∧ a < 2147483648) (rb : -2147483648 ≤ b ∧ b < 2147483648) : CallR K (d + 1) 239 [.int (iI a), .int (iI b)] g (some (.int (iI (max a b)))) g := by
  apply CQ.x
  refine CQ.of (own := 14) (n := 2) (ini := false) (rt := (some .int)) (cd := cd239) (by decide +kernel) rfl (by decide +kernel) rfl (Nat.le_of_ble_eq_true rfl) ?_
  refine RQ.seg 2 (pc' := 2) (L' := [some (.int (iI a)), some (.int (iI b))]) (st' := [.int (iI b), .int (iI a)]) (g1 := g) rfl ?_
  refine RQ.if2 (a := a) (b := b) rfl rfl rfl rfl (by omega) (by omega) (fun (h1 : a < b) => ?_) (fun (h1 : ¬ a < b) => ?_)
  · skip
    refine RQ.seg 1 (pc' := 10) (L' := [some (.int (iI a)), some (.int (iI b))]) (st' := [.int (iI b)]) (g1 := g) rfl ?_
    refine RQ.ret rfl rfl ?_
    refine ⟨?_, rfl⟩
    congr 3; omega
  · skip
    refine RQ.seg 2 (pc' := 10) (L' := [some (.int (iI a)), some (.int (iI b))]) (st' := [.int (iI a)]) (g1 := g) rfl ?_
    refine RQ.ret rfl rfl ?_
    refine ⟨?_, rfl⟩
    congr 3; omega
theorem x_abs {K : PK} {d : Nat} {g : PG} {a : Int} (ra : -2147483647 ≤ a ∧ a < 2147483648) : CallR K (d + 1) 238 [.int (iI a)] g (some (.int (iI (if 0 ≤ a then a else -a)))) g := by
  apply CQ.x
  refine CQ.of (own := 14) (n := 1) (ini := false) (rt := (some .int)) (cd := cd238) (by decide +kernel) rfl (by decide +kernel) rfl (Nat.le_of_ble_eq_true rfl) ?_
  refine RQ.seg 1 (pc' := 1) (L' := [some (.int (iI a))]) (st' := [.int (iI a)]) (g1 := g) rfl ?_
  refine RQ.if1 (a := a) rfl rfl rfl (by omega) (fun (h1 : 0 ≤ a) => ?_) (fun (h1 : ¬ 0 ≤ a) => ?_)
  · skip
    refine RQ.seg 1 (pc' := 10) (L' := [some (.int (iI a))]) (st' := [.int (iI a)]) (g1 := g) rfl ?_
    refine RQ.ret rfl rfl ?_
    refine ⟨?_, rfl⟩
    first | rw [if_pos (by omega)] | rw [if_neg (by omega)]
  · skip
    refine RQ.seg 3 (pc' := 10) (L' := [some (.int (iI a))]) (st' := [.int (-(iI a))]) (g1 := g) rfl ?_
    refine RQ.to (L' := [some (.int (iI a))]) (st' := [.int (iI (-a))]) rfl (by simp only [iI_add, iI_sub, iI_mul, iI_neg]) ?_
    refine RQ.ret rfl rfl ?_
    refine ⟨?_, rfl⟩
    first | rw [if_pos (by omega)] | rw [if_neg (by omega)]
theorem x_fmod {K : PK} {d : Nat} {g : PG} {a : Int} (ra : 0 ≤ a ∧ a < 2147483648) : CallR K (d + 1) 237 [.int (iI a), .int (iI 40)] g (some (.int (iI (a % 40)))) g := by
  apply CQ.x
  refine CQ.of (own := 14) (n := 3) (ini := false) (rt := (some .int)) (cd := cd237) (by decide +kernel) rfl (by decide +kernel) rfl (Nat.le_of_ble_eq_true rfl) ?_
  refine RQ.seg 2 (pc' := 2) (L' := [some (.int (iI a)), some (.int (iI 40)), none]) (st' := [.int (iI 40), .int (iI a)]) (g1 := g) rfl ?_
  refine RQ.irem (a := a) (b := 40) rfl rfl rfl (by omega) (by omega) ?_
  refine RQ.seg 3 (pc' := 6) (L' := [some (.int (iI a)), some (.int (iI 40)), some (.int (iI (a % 40)))]) (st' := [.int (iI 40), .int (iI a)]) (g1 := g) rfl ?_
  refine RQ.ixorn (a := a) (b := 40) rfl rfl rfl (by omega) (by omega) (fun v v0 v1 => ?_)
  refine RQ.if1 (a := v) rfl rfl rfl (by omega) (fun _ => ?_) (fun (q : ¬ 0 ≤ v) => absurd (show 0 ≤ v from by omega) q)
  refine RQ.seg 1 (pc' := 19) (L' := [some (.int (iI a)), some (.int (iI 40)), some (.int (iI (a % 40)))]) (st' := [.int (iI (a % 40))]) (g1 := g) rfl ?_
  refine RQ.ret rfl rfl ?_
  exact ⟨rfl, rfl⟩
