/-! division of numbers that may be below nothing -/
theorem tdiv_r {a b : Int} (ha : -1000000 ≤ a ∧ a ≤ 1000000) : -1000000 ≤ a.tdiv b ∧ a.tdiv b ≤ 1000000 := by
  have h : (a.tdiv b).natAbs ≤ a.natAbs := by
    rw [Int.natAbs_tdiv]
    exact Nat.div_le_self _ _
  omega
theorem lL_div {a b : Int} (ha : -1000000 ≤ a ∧ a ≤ 1000000) (hb : -1000000 ≤ b ∧ b ≤ 1000000) : lL a / lL b = lL (a.tdiv b) := by
  have h1 := lL_toInt (z := a) (by omega)
  have h2 := lL_toInt (z := b) (by omega)
  have h3 := tdiv_r (b := b) ha
  apply Int64.toInt_inj.mp
  rw [Int64.toInt_div, h1, h2, lL_toInt (by omega)]
  show Int.bmod (a.tdiv b) 18446744073709551616 = _
  rw [Int.bmod_def]
  omega
theorem iI_tdiv {a b : Int} (ha : -1000000 ≤ a ∧ a ≤ 1000000) (hb : -1000000 ≤ b ∧ b ≤ 1000000) : iI a / iI b = iI (a.tdiv b) := by
  have h1 := iI_toInt (z := a) (by omega)
  have h2 := iI_toInt (z := b) (by omega)
  have h3 := tdiv_r (b := b) ha
  apply Int32.toInt_inj.mp
  rw [Int32.toInt_div, h1, h2, iI_toInt (by omega)]
  show Int.bmod (a.tdiv b) 4294967296 = _
  rw [Int.bmod_def]
  omega
section RQDiv
variable {K : PK} {d own : Nat} {ini : Bool} {rt : Option FieldType} {cd : PC} {pc : Nat} {L : PL} {st : List Value} {g : PG} {Q : Option Value → PG → Prop}
theorem RQ.ldivt {len : Nat} {a b : Int} (hf : pfetch cd pc = some (.ldiv, len)) (ha : -1000000 ≤ a ∧ a ≤ 1000000) (hb : -1000000 ≤ b ∧ b ≤ 1000000) (h0 : b ≠ 0) (k : RQ K d own ini rt cd (pc + 1) L (.long (lL (a.tdiv b)) :: st) g Q) : RQ K d own ini rt cd pc L (.long (lL b) :: .long (lL a) :: st) g Q := by
  refine RQ.step hf (S := (pc + 1, L, .long (lL (a.tdiv b)) :: st, g)) ?_ k
  show (if lL b = 0 then none else some (pc + 1, L, Value.long (lL a / lL b) :: st, g)) = _
  rw [if_neg (fun z => h0 ((lL_inj (by omega) (by omega)).mp (z.trans (show (0 : Int64) = lL 0 from rfl)))), lL_div ha hb]
theorem RQ.idivt {len : Nat} {a b : Int} (hf : pfetch cd pc = some (.idiv, len)) (ha : -1000000 ≤ a ∧ a ≤ 1000000) (hb : -1000000 ≤ b ∧ b ≤ 1000000) (h0 : b ≠ 0) (k : RQ K d own ini rt cd (pc + 1) L (.int (iI (a.tdiv b)) :: st) g Q) : RQ K d own ini rt cd pc L (.int (iI b) :: .int (iI a) :: st) g Q := by
  refine RQ.step hf (S := (pc + 1, L, .int (iI (a.tdiv b)) :: st, g)) ?_ k
  show (if iI b = 0 then none else some (pc + 1, L, Value.int (iI a / iI b) :: st, g)) = _
  have hn : ¬ iI b = 0 := fun z => h0 (by
    have e := congrArg Int32.toInt z
    rw [iI_toInt (by omega)] at e
    exact e)
  rw [if_neg hn, iI_tdiv ha hb]
end RQDiv
