/-! whole runs -/
section Mono
variable {own : Nat} {ini : Bool} {K : PK} {pc : Nat} {L : PL} {st : List Value} {g : PG} {S : PS}
theorem mo_pldi (i : Nat) (h : pldi L i pc st g = some S) : S.2.2.2.2 = g.2 := by
  unfold pldi at h
  repeat' split at h
  all_goals first
    | (cases h <;> rfl)
    | (obtain ⟨_, _, h⟩ := Option.map_eq_some_iff.mp h; cases h <;> rfl)
    | (obtain ⟨_, _, h⟩ := Option.bind_eq_some_iff.mp h; obtain ⟨_, _, h⟩ := Option.map_eq_some_iff.mp h; cases h <;> rfl)
    | (rw [Bool.cond_eq_ite] at h
       (repeat' split at h) <;> first | (cases h <;> rfl) | (obtain ⟨_, _, h⟩ := Option.map_eq_some_iff.mp h; cases h <;> rfl))
theorem mo_pldl (i : Nat) (h : pldl L i pc st g = some S) : S.2.2.2.2 = g.2 := by
  unfold pldl at h
  repeat' split at h
  all_goals first
    | (cases h <;> rfl)
    | (obtain ⟨_, _, h⟩ := Option.map_eq_some_iff.mp h; cases h <;> rfl)
    | (obtain ⟨_, _, h⟩ := Option.bind_eq_some_iff.mp h; obtain ⟨_, _, h⟩ := Option.map_eq_some_iff.mp h; cases h <;> rfl)
    | (rw [Bool.cond_eq_ite] at h
       (repeat' split at h) <;> first | (cases h <;> rfl) | (obtain ⟨_, _, h⟩ := Option.map_eq_some_iff.mp h; cases h <;> rfl))
theorem mo_plda (i : Nat) (h : plda L i pc st g = some S) : S.2.2.2.2 = g.2 := by
  unfold plda at h
  repeat' split at h
  all_goals first
    | (cases h <;> rfl)
    | (obtain ⟨_, _, h⟩ := Option.map_eq_some_iff.mp h; cases h <;> rfl)
    | (obtain ⟨_, _, h⟩ := Option.bind_eq_some_iff.mp h; obtain ⟨_, _, h⟩ := Option.map_eq_some_iff.mp h; cases h <;> rfl)
    | (rw [Bool.cond_eq_ite] at h
       (repeat' split at h) <;> first | (cases h <;> rfl) | (obtain ⟨_, _, h⟩ := Option.map_eq_some_iff.mp h; cases h <;> rfl))
theorem mo_psti (i : Nat) (h : psti L i pc g st = some S) : S.2.2.2.2 = g.2 := by
  unfold psti at h
  repeat' split at h
  all_goals first
    | (cases h <;> rfl)
    | (obtain ⟨_, _, h⟩ := Option.map_eq_some_iff.mp h; cases h <;> rfl)
    | (obtain ⟨_, _, h⟩ := Option.bind_eq_some_iff.mp h; obtain ⟨_, _, h⟩ := Option.map_eq_some_iff.mp h; cases h <;> rfl)
    | (rw [Bool.cond_eq_ite] at h
       (repeat' split at h) <;> first | (cases h <;> rfl) | (obtain ⟨_, _, h⟩ := Option.map_eq_some_iff.mp h; cases h <;> rfl))
theorem mo_pstl (i : Nat) (h : pstl L i pc g st = some S) : S.2.2.2.2 = g.2 := by
  unfold pstl at h
  repeat' split at h
  all_goals first
    | (cases h <;> rfl)
    | (obtain ⟨_, _, h⟩ := Option.map_eq_some_iff.mp h; cases h <;> rfl)
    | (obtain ⟨_, _, h⟩ := Option.bind_eq_some_iff.mp h; obtain ⟨_, _, h⟩ := Option.map_eq_some_iff.mp h; cases h <;> rfl)
    | (rw [Bool.cond_eq_ite] at h
       (repeat' split at h) <;> first | (cases h <;> rfl) | (obtain ⟨_, _, h⟩ := Option.map_eq_some_iff.mp h; cases h <;> rfl))
theorem mo_psta (i : Nat) (h : psta L i pc g st = some S) : S.2.2.2.2 = g.2 := by
  unfold psta at h
  repeat' split at h
  all_goals first
    | (cases h <;> rfl)
    | (obtain ⟨_, _, h⟩ := Option.map_eq_some_iff.mp h; cases h <;> rfl)
    | (obtain ⟨_, _, h⟩ := Option.bind_eq_some_iff.mp h; obtain ⟨_, _, h⟩ := Option.map_eq_some_iff.mp h; cases h <;> rfl)
    | (rw [Bool.cond_eq_ite] at h
       (repeat' split at h) <;> first | (cases h <;> rfl) | (obtain ⟨_, _, h⟩ := Option.map_eq_some_iff.mp h; cases h <;> rfl))
theorem mo_piinc (i : Nat) (n : Int) (h : piinc L i n pc st g = some S) : S.2.2.2.2 = g.2 := by
  unfold piinc at h
  repeat' split at h
  all_goals first
    | (cases h <;> rfl)
    | (obtain ⟨_, _, h⟩ := Option.map_eq_some_iff.mp h; cases h <;> rfl)
    | (obtain ⟨_, _, h⟩ := Option.bind_eq_some_iff.mp h; obtain ⟨_, _, h⟩ := Option.map_eq_some_iff.mp h; cases h <;> rfl)
    | (rw [Bool.cond_eq_ite] at h
       (repeat' split at h) <;> first | (cases h <;> rfl) | (obtain ⟨_, _, h⟩ := Option.map_eq_some_iff.mp h; cases h <;> rfl))
theorem mo_pbin (f : Int32 → Int32 → Int32) (h : pbin f pc L g st = some S) : S.2.2.2.2 = g.2 := by
  unfold pbin at h
  repeat' split at h
  all_goals first
    | (cases h <;> rfl)
    | (obtain ⟨_, _, h⟩ := Option.map_eq_some_iff.mp h; cases h <;> rfl)
    | (obtain ⟨_, _, h⟩ := Option.bind_eq_some_iff.mp h; obtain ⟨_, _, h⟩ := Option.map_eq_some_iff.mp h; cases h <;> rfl)
    | (rw [Bool.cond_eq_ite] at h
       (repeat' split at h) <;> first | (cases h <;> rfl) | (obtain ⟨_, _, h⟩ := Option.map_eq_some_iff.mp h; cases h <;> rfl))
theorem mo_pbinz (f : Int32 → Int32 → Int32) (h : pbinz f pc L g st = some S) : S.2.2.2.2 = g.2 := by
  unfold pbinz at h
  repeat' split at h
  all_goals first
    | (cases h <;> rfl)
    | (obtain ⟨_, _, h⟩ := Option.map_eq_some_iff.mp h; cases h <;> rfl)
    | (obtain ⟨_, _, h⟩ := Option.bind_eq_some_iff.mp h; obtain ⟨_, _, h⟩ := Option.map_eq_some_iff.mp h; cases h <;> rfl)
    | (rw [Bool.cond_eq_ite] at h
       (repeat' split at h) <;> first | (cases h <;> rfl) | (obtain ⟨_, _, h⟩ := Option.map_eq_some_iff.mp h; cases h <;> rfl))
theorem mo_pbinl (f : Int64 → Int64 → Int64) (h : pbinl f pc L g st = some S) : S.2.2.2.2 = g.2 := by
  unfold pbinl at h
  repeat' split at h
  all_goals first
    | (cases h <;> rfl)
    | (obtain ⟨_, _, h⟩ := Option.map_eq_some_iff.mp h; cases h <;> rfl)
    | (obtain ⟨_, _, h⟩ := Option.bind_eq_some_iff.mp h; obtain ⟨_, _, h⟩ := Option.map_eq_some_iff.mp h; cases h <;> rfl)
    | (rw [Bool.cond_eq_ite] at h
       (repeat' split at h) <;> first | (cases h <;> rfl) | (obtain ⟨_, _, h⟩ := Option.map_eq_some_iff.mp h; cases h <;> rfl))
theorem mo_pbinlz (f : Int64 → Int64 → Int64) (h : pbinlz f pc L g st = some S) : S.2.2.2.2 = g.2 := by
  unfold pbinlz at h
  repeat' split at h
  all_goals first
    | (cases h <;> rfl)
    | (obtain ⟨_, _, h⟩ := Option.map_eq_some_iff.mp h; cases h <;> rfl)
    | (obtain ⟨_, _, h⟩ := Option.bind_eq_some_iff.mp h; obtain ⟨_, _, h⟩ := Option.map_eq_some_iff.mp h; cases h <;> rfl)
    | (rw [Bool.cond_eq_ite] at h
       (repeat' split at h) <;> first | (cases h <;> rfl) | (obtain ⟨_, _, h⟩ := Option.map_eq_some_iff.mp h; cases h <;> rfl))
theorem mo_pshl (f : Int64 → Int32 → Int64) (h : pshl f pc L g st = some S) : S.2.2.2.2 = g.2 := by
  unfold pshl at h
  repeat' split at h
  all_goals first
    | (cases h <;> rfl)
    | (obtain ⟨_, _, h⟩ := Option.map_eq_some_iff.mp h; cases h <;> rfl)
    | (obtain ⟨_, _, h⟩ := Option.bind_eq_some_iff.mp h; obtain ⟨_, _, h⟩ := Option.map_eq_some_iff.mp h; cases h <;> rfl)
    | (rw [Bool.cond_eq_ite] at h
       (repeat' split at h) <;> first | (cases h <;> rfl) | (obtain ⟨_, _, h⟩ := Option.map_eq_some_iff.mp h; cases h <;> rfl))
theorem mo_plcmp  (h : plcmp pc L g st = some S) : S.2.2.2.2 = g.2 := by
  unfold plcmp at h
  repeat' split at h
  all_goals first
    | (cases h <;> rfl)
    | (obtain ⟨_, _, h⟩ := Option.map_eq_some_iff.mp h; cases h <;> rfl)
    | (obtain ⟨_, _, h⟩ := Option.bind_eq_some_iff.mp h; obtain ⟨_, _, h⟩ := Option.map_eq_some_iff.mp h; cases h <;> rfl)
    | (rw [Bool.cond_eq_ite] at h
       (repeat' split at h) <;> first | (cases h <;> rfl) | (obtain ⟨_, _, h⟩ := Option.map_eq_some_iff.mp h; cases h <;> rfl))
theorem mo_puni (f : Int32 → Value) (h : puni f pc L g st = some S) : S.2.2.2.2 = g.2 := by
  unfold puni at h
  repeat' split at h
  all_goals first
    | (cases h <;> rfl)
    | (obtain ⟨_, _, h⟩ := Option.map_eq_some_iff.mp h; cases h <;> rfl)
    | (obtain ⟨_, _, h⟩ := Option.bind_eq_some_iff.mp h; obtain ⟨_, _, h⟩ := Option.map_eq_some_iff.mp h; cases h <;> rfl)
    | (rw [Bool.cond_eq_ite] at h
       (repeat' split at h) <;> first | (cases h <;> rfl) | (obtain ⟨_, _, h⟩ := Option.map_eq_some_iff.mp h; cases h <;> rfl))
theorem mo_punl (f : Int64 → Value) (h : punl f pc L g st = some S) : S.2.2.2.2 = g.2 := by
  unfold punl at h
  repeat' split at h
  all_goals first
    | (cases h <;> rfl)
    | (obtain ⟨_, _, h⟩ := Option.map_eq_some_iff.mp h; cases h <;> rfl)
    | (obtain ⟨_, _, h⟩ := Option.bind_eq_some_iff.mp h; obtain ⟨_, _, h⟩ := Option.map_eq_some_iff.mp h; cases h <;> rfl)
    | (rw [Bool.cond_eq_ite] at h
       (repeat' split at h) <;> first | (cases h <;> rfl) | (obtain ⟨_, _, h⟩ := Option.map_eq_some_iff.mp h; cases h <;> rfl))
theorem mo_pif2 (c : ClassFile.Cond) (t : Option Nat) (h : pif2 c pc t L g st = some S) : S.2.2.2.2 = g.2 := by
  unfold pif2 at h
  repeat' split at h
  all_goals first
    | (cases h <;> rfl)
    | (obtain ⟨_, _, h⟩ := Option.map_eq_some_iff.mp h; cases h <;> rfl)
    | (obtain ⟨_, _, h⟩ := Option.bind_eq_some_iff.mp h; obtain ⟨_, _, h⟩ := Option.map_eq_some_iff.mp h; cases h <;> rfl)
    | (rw [Bool.cond_eq_ite] at h
       (repeat' split at h) <;> first | (cases h <;> rfl) | (obtain ⟨_, _, h⟩ := Option.map_eq_some_iff.mp h; cases h <;> rfl))
theorem mo_pif1 (c : ClassFile.Cond) (t : Option Nat) (h : pif1 c pc t L g st = some S) : S.2.2.2.2 = g.2 := by
  unfold pif1 at h
  repeat' split at h
  all_goals first
    | (cases h <;> rfl)
    | (obtain ⟨_, _, h⟩ := Option.map_eq_some_iff.mp h; cases h <;> rfl)
    | (obtain ⟨_, _, h⟩ := Option.bind_eq_some_iff.mp h; obtain ⟨_, _, h⟩ := Option.map_eq_some_iff.mp h; cases h <;> rfl)
    | (rw [Bool.cond_eq_ite] at h
       (repeat' split at h) <;> first | (cases h <;> rfl) | (obtain ⟨_, _, h⟩ := Option.map_eq_some_iff.mp h; cases h <;> rfl))
theorem mo_pifnn (t : Option Nat) (h : pifnn pc t L g st = some S) : S.2.2.2.2 = g.2 := by
  unfold pifnn at h
  repeat' split at h
  all_goals first
    | (cases h <;> rfl)
    | (obtain ⟨_, _, h⟩ := Option.map_eq_some_iff.mp h; cases h <;> rfl)
    | (obtain ⟨_, _, h⟩ := Option.bind_eq_some_iff.mp h; obtain ⟨_, _, h⟩ := Option.map_eq_some_iff.mp h; cases h <;> rfl)
    | (rw [Bool.cond_eq_ite] at h
       (repeat' split at h) <;> first | (cases h <;> rfl) | (obtain ⟨_, _, h⟩ := Option.map_eq_some_iff.mp h; cases h <;> rfl))
theorem mo_ptsw (d lo hi : Int) (offs : Array Int) (h : ptsw d lo hi offs pc L g st = some S) : S.2.2.2.2 = g.2 := by
  unfold ptsw at h
  repeat' split at h
  all_goals first
    | (cases h <;> rfl)
    | (obtain ⟨_, _, h⟩ := Option.map_eq_some_iff.mp h; cases h <;> rfl)
    | (obtain ⟨_, _, h⟩ := Option.bind_eq_some_iff.mp h; obtain ⟨_, _, h⟩ := Option.map_eq_some_iff.mp h; cases h <;> rfl)
    | (rw [Bool.cond_eq_ite] at h
       (repeat' split at h) <;> first | (cases h <;> rfl) | (obtain ⟨_, _, h⟩ := Option.map_eq_some_iff.mp h; cases h <;> rfl))
theorem mo_plsw (d : Int) (ps : Array (Int × Int)) (h : plsw d ps pc L g st = some S) : S.2.2.2.2 = g.2 := by
  unfold plsw at h
  repeat' split at h
  all_goals first
    | (cases h <;> rfl)
    | (obtain ⟨_, _, h⟩ := Option.map_eq_some_iff.mp h; cases h <;> rfl)
    | (obtain ⟨_, _, h⟩ := Option.bind_eq_some_iff.mp h; obtain ⟨_, _, h⟩ := Option.map_eq_some_iff.mp h; cases h <;> rfl)
    | (rw [Bool.cond_eq_ite] at h
       (repeat' split at h) <;> first | (cases h <;> rfl) | (obtain ⟨_, _, h⟩ := Option.map_eq_some_iff.mp h; cases h <;> rfl))
theorem mo_pdup  (h : pdup pc L g st = some S) : S.2.2.2.2 = g.2 := by
  unfold pdup at h
  repeat' split at h
  all_goals first
    | (cases h <;> rfl)
    | (obtain ⟨_, _, h⟩ := Option.map_eq_some_iff.mp h; cases h <;> rfl)
    | (obtain ⟨_, _, h⟩ := Option.bind_eq_some_iff.mp h; obtain ⟨_, _, h⟩ := Option.map_eq_some_iff.mp h; cases h <;> rfl)
    | (rw [Bool.cond_eq_ite] at h
       (repeat' split at h) <;> first | (cases h <;> rfl) | (obtain ⟨_, _, h⟩ := Option.map_eq_some_iff.mp h; cases h <;> rfl))
theorem mo_pdup2  (h : pdup2 pc L g st = some S) : S.2.2.2.2 = g.2 := by
  unfold pdup2 at h
  repeat' split at h
  all_goals first
    | (cases h <;> rfl)
    | (obtain ⟨_, _, h⟩ := Option.map_eq_some_iff.mp h; cases h <;> rfl)
    | (obtain ⟨_, _, h⟩ := Option.bind_eq_some_iff.mp h; obtain ⟨_, _, h⟩ := Option.map_eq_some_iff.mp h; cases h <;> rfl)
    | (rw [Bool.cond_eq_ite] at h
       (repeat' split at h) <;> first | (cases h <;> rfl) | (obtain ⟨_, _, h⟩ := Option.map_eq_some_iff.mp h; cases h <;> rfl))
theorem mo_ppop  (h : ppop pc L g st = some S) : S.2.2.2.2 = g.2 := by
  unfold ppop at h
  repeat' split at h
  all_goals first
    | (cases h <;> rfl)
    | (obtain ⟨_, _, h⟩ := Option.map_eq_some_iff.mp h; cases h <;> rfl)
    | (obtain ⟨_, _, h⟩ := Option.bind_eq_some_iff.mp h; obtain ⟨_, _, h⟩ := Option.map_eq_some_iff.mp h; cases h <;> rfl)
    | (rw [Bool.cond_eq_ite] at h
       (repeat' split at h) <;> first | (cases h <;> rfl) | (obtain ⟨_, _, h⟩ := Option.map_eq_some_iff.mp h; cases h <;> rfl))
theorem mo_pldcv (v : Option Value) (h : pldcv v pc L st g = some S) : S.2.2.2.2 = g.2 := by
  unfold pldcv at h
  repeat' split at h
  all_goals first
    | (cases h <;> rfl)
    | (obtain ⟨_, _, h⟩ := Option.map_eq_some_iff.mp h; cases h <;> rfl)
    | (obtain ⟨_, _, h⟩ := Option.bind_eq_some_iff.mp h; obtain ⟨_, _, h⟩ := Option.map_eq_some_iff.mp h; cases h <;> rfl)
    | (rw [Bool.cond_eq_ite] at h
       (repeat' split at h) <;> first | (cases h <;> rfl) | (obtain ⟨_, _, h⟩ := Option.map_eq_some_iff.mp h; cases h <;> rfl))
theorem mo_pldcl (v : Option Value) (h : pldcl v pc L st g = some S) : S.2.2.2.2 = g.2 := by
  unfold pldcl at h
  repeat' split at h
  all_goals first
    | (cases h <;> rfl)
    | (obtain ⟨_, _, h⟩ := Option.map_eq_some_iff.mp h; cases h <;> rfl)
    | (obtain ⟨_, _, h⟩ := Option.bind_eq_some_iff.mp h; obtain ⟨_, _, h⟩ := Option.map_eq_some_iff.mp h; cases h <;> rfl)
    | (rw [Bool.cond_eq_ite] at h
       (repeat' split at h) <;> first | (cases h <;> rfl) | (obtain ⟨_, _, h⟩ := Option.map_eq_some_iff.mp h; cases h <;> rfl))
theorem mo_pgetf (i : Nat) (h : pgetf own i pc L g st = some S) : S.2.2.2.2 = g.2 := by
  unfold pgetf at h
  repeat' split at h
  all_goals first
    | (cases h <;> rfl)
    | (obtain ⟨_, _, h⟩ := Option.map_eq_some_iff.mp h; cases h <;> rfl)
    | (obtain ⟨_, _, h⟩ := Option.bind_eq_some_iff.mp h; obtain ⟨_, _, h⟩ := Option.map_eq_some_iff.mp h; cases h <;> rfl)
    | (rw [Bool.cond_eq_ite] at h
       (repeat' split at h) <;> first | (cases h <;> rfl) | (obtain ⟨_, _, h⟩ := Option.map_eq_some_iff.mp h; cases h <;> rfl))
theorem mo_pputf (i : Nat) (h : pputf own ini i pc L g st = some S) : S.2.2.2.2 = g.2 := by
  unfold pputf at h
  repeat' split at h
  all_goals first
    | (cases h <;> rfl)
    | (obtain ⟨_, _, h⟩ := Option.map_eq_some_iff.mp h; cases h <;> rfl)
    | (obtain ⟨_, _, h⟩ := Option.bind_eq_some_iff.mp h; obtain ⟨_, _, h⟩ := Option.map_eq_some_iff.mp h; cases h <;> rfl)
    | (rw [Bool.cond_eq_ite] at h
       (repeat' split at h) <;> first | (cases h <;> rfl) | (obtain ⟨_, _, h⟩ := Option.map_eq_some_iff.mp h; cases h <;> rfl))
theorem mo_pgets (n : Option Nat) (h : pgets n pc L st g = some S) : S.2.2.2.2 = g.2 := by
  unfold pgets at h
  repeat' split at h
  all_goals first
    | (cases h <;> rfl)
    | (obtain ⟨_, _, h⟩ := Option.map_eq_some_iff.mp h; cases h <;> rfl)
    | (obtain ⟨_, _, h⟩ := Option.bind_eq_some_iff.mp h; obtain ⟨_, _, h⟩ := Option.map_eq_some_iff.mp h; cases h <;> rfl)
    | (rw [Bool.cond_eq_ite] at h
       (repeat' split at h) <;> first | (cases h <;> rfl) | (obtain ⟨_, _, h⟩ := Option.map_eq_some_iff.mp h; cases h <;> rfl))
theorem mo_palen  (h : palen K pc L g st = some S) : S.2.2.2.2 = g.2 := by
  unfold palen at h
  repeat' split at h
  all_goals first
    | (cases h <;> rfl)
    | (obtain ⟨_, _, h⟩ := Option.map_eq_some_iff.mp h; cases h <;> rfl)
    | (obtain ⟨_, _, h⟩ := Option.bind_eq_some_iff.mp h; obtain ⟨_, _, h⟩ := Option.map_eq_some_iff.mp h; cases h <;> rfl)
    | (rw [Bool.cond_eq_ite] at h
       (repeat' split at h) <;> first | (cases h <;> rfl) | (obtain ⟨_, _, h⟩ := Option.map_eq_some_iff.mp h; cases h <;> rfl))
theorem mo_piald  (h : piald K pc L g st = some S) : S.2.2.2.2 = g.2 := by
  unfold piald at h
  repeat' split at h
  all_goals first
    | (cases h <;> rfl)
    | (obtain ⟨_, _, h⟩ := Option.map_eq_some_iff.mp h; cases h <;> rfl)
    | (obtain ⟨_, _, h⟩ := Option.bind_eq_some_iff.mp h; obtain ⟨_, _, h⟩ := Option.map_eq_some_iff.mp h; cases h <;> rfl)
    | (rw [Bool.cond_eq_ite] at h
       (repeat' split at h) <;> first | (cases h <;> rfl) | (obtain ⟨_, _, h⟩ := Option.map_eq_some_iff.mp h; cases h <;> rfl))
theorem mo_pbald  (h : pbald pc L g st = some S) : S.2.2.2.2 = g.2 := by
  unfold pbald at h
  repeat' split at h
  all_goals first
    | (cases h <;> rfl)
    | (obtain ⟨_, _, h⟩ := Option.map_eq_some_iff.mp h; cases h <;> rfl)
    | (obtain ⟨_, _, h⟩ := Option.bind_eq_some_iff.mp h; obtain ⟨_, _, h⟩ := Option.map_eq_some_iff.mp h; cases h <;> rfl)
    | (rw [Bool.cond_eq_ite] at h
       (repeat' split at h) <;> first | (cases h <;> rfl) | (obtain ⟨_, _, h⟩ := Option.map_eq_some_iff.mp h; cases h <;> rfl))
theorem mo_plald  (h : plald pc L g st = some S) : S.2.2.2.2 = g.2 := by
  unfold plald at h
  repeat' split at h
  all_goals first
    | (cases h <;> rfl)
    | (obtain ⟨_, _, h⟩ := Option.map_eq_some_iff.mp h; cases h <;> rfl)
    | (obtain ⟨_, _, h⟩ := Option.bind_eq_some_iff.mp h; obtain ⟨_, _, h⟩ := Option.map_eq_some_iff.mp h; cases h <;> rfl)
    | (rw [Bool.cond_eq_ite] at h
       (repeat' split at h) <;> first | (cases h <;> rfl) | (obtain ⟨_, _, h⟩ := Option.map_eq_some_iff.mp h; cases h <;> rfl))
theorem mo_paald  (h : paald pc L g st = some S) : S.2.2.2.2 = g.2 := by
  unfold paald at h
  repeat' split at h
  all_goals first
    | (cases h <;> rfl)
    | (obtain ⟨_, _, h⟩ := Option.map_eq_some_iff.mp h; cases h <;> rfl)
    | (obtain ⟨_, _, h⟩ := Option.bind_eq_some_iff.mp h; obtain ⟨_, _, h⟩ := Option.map_eq_some_iff.mp h; cases h <;> rfl)
    | (rw [Bool.cond_eq_ite] at h
       (repeat' split at h) <;> first | (cases h <;> rfl) | (obtain ⟨_, _, h⟩ := Option.map_eq_some_iff.mp h; cases h <;> rfl))
theorem mo_piast  (h : piast pc L g st = some S) : S.2.2.2.2 = g.2 := by
  unfold piast at h
  repeat' split at h
  all_goals first
    | (cases h <;> rfl)
    | (obtain ⟨_, _, h⟩ := Option.map_eq_some_iff.mp h; cases h <;> rfl)
    | (obtain ⟨_, _, h⟩ := Option.bind_eq_some_iff.mp h; obtain ⟨_, _, h⟩ := Option.map_eq_some_iff.mp h; cases h <;> rfl)
    | (rw [Bool.cond_eq_ite] at h
       (repeat' split at h) <;> first | (cases h <;> rfl) | (obtain ⟨_, _, h⟩ := Option.map_eq_some_iff.mp h; cases h <;> rfl))
theorem mo_pbast  (h : pbast pc L g st = some S) : S.2.2.2.2 = g.2 := by
  unfold pbast at h
  repeat' split at h
  all_goals first
    | (cases h <;> rfl)
    | (obtain ⟨_, _, h⟩ := Option.map_eq_some_iff.mp h; cases h <;> rfl)
    | (obtain ⟨_, _, h⟩ := Option.bind_eq_some_iff.mp h; obtain ⟨_, _, h⟩ := Option.map_eq_some_iff.mp h; cases h <;> rfl)
    | (rw [Bool.cond_eq_ite] at h
       (repeat' split at h) <;> first | (cases h <;> rfl) | (obtain ⟨_, _, h⟩ := Option.map_eq_some_iff.mp h; cases h <;> rfl))
theorem mo_plast  (h : plast pc L g st = some S) : S.2.2.2.2 = g.2 := by
  unfold plast at h
  repeat' split at h
  all_goals first
    | (cases h <;> rfl)
    | (obtain ⟨_, _, h⟩ := Option.map_eq_some_iff.mp h; cases h <;> rfl)
    | (obtain ⟨_, _, h⟩ := Option.bind_eq_some_iff.mp h; obtain ⟨_, _, h⟩ := Option.map_eq_some_iff.mp h; cases h <;> rfl)
    | (rw [Bool.cond_eq_ite] at h
       (repeat' split at h) <;> first | (cases h <;> rfl) | (obtain ⟨_, _, h⟩ := Option.map_eq_some_iff.mp h; cases h <;> rfl))
theorem mo_paast  (h : paast pc L g st = some S) : S.2.2.2.2 = g.2 := by
  unfold paast at h
  repeat' split at h
  all_goals first
    | (cases h <;> rfl)
    | (obtain ⟨_, _, h⟩ := Option.map_eq_some_iff.mp h; cases h <;> rfl)
    | (obtain ⟨_, _, h⟩ := Option.bind_eq_some_iff.mp h; obtain ⟨_, _, h⟩ := Option.map_eq_some_iff.mp h; cases h <;> rfl)
    | (rw [Bool.cond_eq_ite] at h
       (repeat' split at h) <;> first | (cases h <;> rfl) | (obtain ⟨_, _, h⟩ := Option.map_eq_some_iff.mp h; cases h <;> rfl))
theorem mo_pobj (i : Nat) (h : pobj own i pc L g st = some S) : S.2.2.2.2 = g.2 := by
  unfold pobj at h
  repeat' split at h
  all_goals first
    | (cases h <;> rfl)
    | (obtain ⟨_, _, h⟩ := Option.map_eq_some_iff.mp h; cases h <;> rfl)
    | (obtain ⟨_, _, h⟩ := Option.bind_eq_some_iff.mp h; obtain ⟨_, _, h⟩ := Option.map_eq_some_iff.mp h; cases h <;> rfl)
    | (rw [Bool.cond_eq_ite] at h
       (repeat' split at h) <;> first | (cases h <;> rfl) | (obtain ⟨_, _, h⟩ := Option.map_eq_some_iff.mp h; cases h <;> rfl))
theorem mo_pacp (i : Nat) (h : pacp K own i pc L g st = some S) : S.2.2.2.2 = g.2 := by
  unfold pacp at h
  repeat' split at h
  all_goals first
    | (cases h <;> rfl)
    | (obtain ⟨_, _, h⟩ := Option.map_eq_some_iff.mp h; cases h <;> rfl)
    | (obtain ⟨_, _, h⟩ := Option.bind_eq_some_iff.mp h; obtain ⟨_, _, h⟩ := Option.map_eq_some_iff.mp h; cases h <;> rfl)
    | (rw [Bool.cond_eq_ite] at h
       (repeat' split at h) <;> first | (cases h <;> rfl) | (obtain ⟨_, _, h⟩ := Option.map_eq_some_iff.mp h; cases h <;> rfl))
theorem mo_ppnew (c : Option Nat) (h : ppnew c pc L st g = some S) : g.2.1 ≤ S.2.2.2.2.1 ∧ g.2.2 ≤ S.2.2.2.2.2 := by
  unfold ppnew at h
  repeat' split at h
  all_goals first
    | (cases h <;> exact ⟨by dsimp only; omega, by dsimp only; omega⟩)
    | (obtain ⟨_, _, h⟩ := Option.map_eq_some_iff.mp h; cases h <;> exact ⟨by dsimp only; omega, by dsimp only; omega⟩)
    | (rw [Bool.cond_eq_ite] at h
       (repeat' split at h) <;> (cases h <;> exact ⟨by dsimp only; omega, by dsimp only; omega⟩))
theorem mo_pnewa (t : ArrayType) (h : pnewa t pc L g st = some S) : g.2.1 ≤ S.2.2.2.2.1 ∧ g.2.2 ≤ S.2.2.2.2.2 := by
  unfold pnewa at h
  repeat' split at h
  all_goals first
    | (cases h <;> exact ⟨by dsimp only; omega, by dsimp only; omega⟩)
    | (obtain ⟨_, _, h⟩ := Option.map_eq_some_iff.mp h; cases h <;> exact ⟨by dsimp only; omega, by dsimp only; omega⟩)
    | (rw [Bool.cond_eq_ite] at h
       (repeat' split at h) <;> (cases h <;> exact ⟨by dsimp only; omega, by dsimp only; omega⟩))
theorem mo_panew (c : Option Nat) (h : panew c pc L g st = some S) : g.2.1 ≤ S.2.2.2.2.1 ∧ g.2.2 ≤ S.2.2.2.2.2 := by
  unfold panew at h
  repeat' split at h
  all_goals first
    | (cases h <;> exact ⟨by dsimp only; omega, by dsimp only; omega⟩)
    | (obtain ⟨_, _, h⟩ := Option.map_eq_some_iff.mp h; cases h <;> exact ⟨by dsimp only; omega, by dsimp only; omega⟩)
    | (rw [Bool.cond_eq_ite] at h
       (repeat' split at h) <;> (cases h <;> exact ⟨by dsimp only; omega, by dsimp only; omega⟩))
theorem mo_pmna (i : Nat) (h : pmna own i pc L g st = some S) : g.2.1 ≤ S.2.2.2.2.1 ∧ g.2.2 ≤ S.2.2.2.2.2 := by
  unfold pmna at h
  repeat' split at h
  all_goals first
    | (cases h <;> exact ⟨by dsimp only; omega, by dsimp only; omega⟩)
    | (obtain ⟨_, _, h⟩ := Option.map_eq_some_iff.mp h; cases h <;> exact ⟨by dsimp only; omega, by dsimp only; omega⟩)
    | (rw [Bool.cond_eq_ite] at h
       (repeat' split at h) <;> (cases h <;> exact ⟨by dsimp only; omega, by dsimp only; omega⟩))
theorem mo_of {S : PS} (h : S.2.2.2.2 = g.2) : g.2.1 ≤ S.2.2.2.2.1 ∧ g.2.2 ≤ S.2.2.2.2.2 := by rw [h]; exact ⟨Nat.le_refl _, Nat.le_refl _⟩
theorem pstep_mono {ins : Instr} (h : pstep own ini K ins pc L st g = some S) : g.2.1 ≤ S.2.2.2.2.1 ∧ g.2.2 ≤ S.2.2.2.2.2 := by
  cases ins with
  | iconst n => cases h; exact ⟨Nat.le_refl _, Nat.le_refl _⟩
  | aconst_null => cases h; exact ⟨Nat.le_refl _, Nat.le_refl _⟩
  | lconst n => cases h; exact ⟨Nat.le_refl _, Nat.le_refl _⟩
  | bipush n =>
    have h1 : (if -128 ≤ n ∧ n < 128 then some (pc + 2, L, Value.int (ilit n) :: st, g) else none) = some S := h
    split at h1
    · cases h1; exact ⟨Nat.le_refl _, Nat.le_refl _⟩
    · cases h1
  | sipush n =>
    have h1 : (if -32768 ≤ n ∧ n < 32768 then some (pc + 3, L, Value.int (ilit n) :: st, g) else none) = some S := h
    split at h1
    · cases h1; exact ⟨Nat.le_refl _, Nat.le_refl _⟩
    · cases h1
  | goto off =>
    have h1 : ((ptgt pc off).map fun t => (t, L, st, g)) = some S := h
    obtain ⟨_, _, h2⟩ := Option.map_eq_some_iff.mp h1
    cases h2
    exact ⟨Nat.le_refl _, Nat.le_refl _⟩
  | iload_n n => exact mo_of (mo_pldi _ h)
  | iload i => exact mo_of (mo_pldi _ h)
  | lload_n n => exact mo_of (mo_pldl _ h)
  | lload i => exact mo_of (mo_pldl _ h)
  | aload_n n => exact mo_of (mo_plda _ h)
  | aload i => exact mo_of (mo_plda _ h)
  | istore_n n => exact mo_of (mo_psti _ h)
  | istore i => exact mo_of (mo_psti _ h)
  | lstore_n n => exact mo_of (mo_pstl _ h)
  | lstore i => exact mo_of (mo_pstl _ h)
  | astore_n n => exact mo_of (mo_psta _ h)
  | astore i => exact mo_of (mo_psta _ h)
  | iinc i n => exact mo_of (mo_piinc _ _ h)
  | iadd => exact mo_of (mo_pbin _ h)
  | isub => exact mo_of (mo_pbin _ h)
  | imul => exact mo_of (mo_pbin _ h)
  | iand => exact mo_of (mo_pbin _ h)
  | ior => exact mo_of (mo_pbin _ h)
  | ixor => exact mo_of (mo_pbin _ h)
  | ishl => exact mo_of (mo_pbin _ h)
  | ishr => exact mo_of (mo_pbin _ h)
  | iushr => exact mo_of (mo_pbin _ h)
  | idiv => exact mo_of (mo_pbinz _ h)
  | irem => exact mo_of (mo_pbinz _ h)
  | ladd => exact mo_of (mo_pbinl _ h)
  | lsub => exact mo_of (mo_pbinl _ h)
  | lmul => exact mo_of (mo_pbinl _ h)
  | land => exact mo_of (mo_pbinl _ h)
  | lor => exact mo_of (mo_pbinl _ h)
  | ldiv => exact mo_of (mo_pbinlz _ h)
  | lrem => exact mo_of (mo_pbinlz _ h)
  | lshl => exact mo_of (mo_pshl _ h)
  | lushr => exact mo_of (mo_pshl _ h)
  | lcmp => exact mo_of (mo_plcmp h)
  | ineg => exact mo_of (mo_puni _ h)
  | i2l => exact mo_of (mo_puni _ h)
  | i2b => exact mo_of (mo_puni _ h)
  | l2i => exact mo_of (mo_punl _ h)
  | if_icmp cd off => exact mo_of (mo_pif2 _ _ h)
  | ifCond cd off => exact mo_of (mo_pif1 _ _ h)
  | ifnonnull off => exact mo_of (mo_pifnn _ h)
  | tableswitch d lo hi offs => exact mo_of (mo_ptsw _ _ _ _ h)
  | lookupswitch d ps => exact mo_of (mo_plsw _ _ h)
  | dup => exact mo_of (mo_pdup h)
  | dup2 => exact mo_of (mo_pdup2 h)
  | pop => exact mo_of (mo_ppop h)
  | arraylength => exact mo_of (mo_palen h)
  | iaload => exact mo_of (mo_piald h)
  | baload => exact mo_of (mo_pbald h)
  | laload => exact mo_of (mo_plald h)
  | aaload => exact mo_of (mo_paald h)
  | iastore => exact mo_of (mo_piast h)
  | bastore => exact mo_of (mo_pbast h)
  | lastore => exact mo_of (mo_plast h)
  | aastore => exact mo_of (mo_paast h)
  | ldc i => exact mo_of (mo_pldcv _ h)
  | ldc_w i => exact mo_of (mo_pldcv _ h)
  | ldc2_w i => exact mo_of (mo_pldcl _ h)
  | getfield i => exact mo_of (mo_pgetf _ h)
  | putfield i => exact mo_of (mo_pputf _ h)
  | getstatic i => exact mo_of (mo_pgets _ h)
  | invokespecial i => exact mo_of (mo_pobj _ h)
  | invokestatic i => exact mo_of (mo_pacp _ h)
  | new i => exact mo_ppnew _ h
  | newarray t => exact mo_pnewa _ h
  | anewarray i => exact mo_panew _ h
  | multianewarray i d =>
    have h1 : (bif Nat.beq d 2 then pmna own i (pc + 4) L g st else none) = some S := h
    cases hd2 : Nat.beq d 2 with
    | false => rw [hd2] at h1; cases h1
    | true => rw [hd2] at h1; exact mo_pmna _ h1
  | _ => cases h
end Mono
theorem run_mono {O : Nat → List Value → PG → Option Value → PG → Prop} {own : Nat} {ini : Bool} {rt : Option FieldType} {K : PK} {cd : PC} {r : Option Value} {g' : PG} (hO : ∀ k as g rv g1, O k as g rv g1 → g.2.1 ≤ g1.2.1 ∧ g.2.2 ≤ g1.2.2) : ∀ (n pc : Nat) (L : PL) (st : List Value) (g : PG), RunN O own ini rt K cd n pc L st g r g' → g.2.1 ≤ g'.2.1 ∧ g.2.2 ≤ g'.2.2
  | 0, _, _, _, _, h => h.elim
  | n + 1, pc, L, st, g, h => by
    obtain ⟨ins, len, -, h⟩ := h
    rcases h with ⟨-, h⟩ | ⟨S, h1, h2⟩ | ⟨k, as, rest, rv, g1, -, h1, h2⟩
    · rw [h]; exact ⟨Nat.le_refl _, Nat.le_refl _⟩
    · have a := pstep_mono h1
      have b := run_mono hO n _ _ _ _ h2
      exact ⟨Nat.le_trans a.1 b.1, Nat.le_trans a.2 b.2⟩
    · have a := hO _ _ _ _ _ h1
      have b := run_mono hO n _ _ _ _ h2
      exact ⟨Nat.le_trans a.1 b.1, Nat.le_trans a.2 b.2⟩
section Run
variable {p : Program} {l : Launch} {e : Env} {R : Room} {s : State} {m : MethodId} {args : Array Value} {below : List Frame} {meth : Method} {c : Code} {D : va_G} {A : Nat → Prop} {ka : Nat → Nat} {ws0 : va_W} {c0 s0 nL : Nat} {cc : ByteArray} {own : Nat} {ini : Bool} {K : PK} {d : Nat} {rt : Option FieldType} {r : Option Value}
theorem ret_ok {pc : Nat} {L : PL} {st : List Value} {g : PG} {ins : Instr} {len : Nat} (hx : p.tables.exec = Jvm.exec) (hb : c.code = cc) (hret : meth.sig.returnType = rt) (hlocks : meth.locks = false) (hd : decode cc pc = .ok (ins, len)) (hl : lenOK ins len = true) (h : pret rt ins st = some r) : PW p l e R s m args below meth c (MQ below (PQ D ka ws0 A r g) args s (g.2.1 - c0) (g.2.2 - s0) A) D A ka ws0 c0 s0 nL pc L st g := by
  have key : ∀ {ws : va_W} {tys : List (ClassId × FieldType)} {H : Heap} {locs : List Loc} {v : Option Value}, va_P D classes ws H → va_K D classes tys s → va_D A ws → va_S A s.heap H locs → HRel ka ws tys g.1 → Ext ws0 ws → RRel ka ws r v → ∀ t : State, t.heap = H → s.WarmedH t.vm → PQ D ka ws0 A r g args s (.returned v) t :=
    fun hP hK hD hS hH hE hv t ht hW => ⟨⟨_, _, _, rfl, hv, by rw [ht]; exact hP, va_K.moved hW.alike hK, hD, hH, hE⟩, hS.F ht⟩
  cases ins with
  | ireturn =>
    obtain rfl : len = 1 := Nat.eq_of_beq_eq_true hl
    unfold pret at h
    dsimp only at h
    split at h
    · next v =>
      split at h
      · cases h
        intro ws tys H locs ls st1 hP hK hD hS hH hL hT hE hc hs
        obtain ⟨r1, e1, hT1⟩ := hT.int
        rw [e1, hT1.nil]
        exact W.iret hx hb hret (key hP hK hD hS hH hE rfl) (fun q hq => hS.2.2 q hq) hd (hlocks := hlocks)
      · cases hz : v == 0 || v == 1 with
        | false => rw [hz] at h; cases h
        | true =>
          rw [hz] at h
          cases h
          simp only [Bool.or_eq_true, beq_iff_eq] at hz
          intro ws tys H locs ls st1 hP hK hD hS hH hL hT hE hc hs
          obtain ⟨r1, e1, hT1⟩ := hT.int
          rw [e1, hT1.nil]
          exact W.zret hx hb hret (by rcases hz with q | q <;> (rw [q]; rfl)) (key hP hK hD hS hH hE rfl) (fun q hq => hS.2.2 q hq) hd (hlocks := hlocks)
      · cases h
    · cases h
  | lreturn =>
    obtain rfl : len = 1 := Nat.eq_of_beq_eq_true hl
    unfold pret at h
    dsimp only at h
    split at h
    · next v =>
      split at h
      · cases h
        intro ws tys H locs ls st1 hP hK hD hS hH hL hT hE hc hs
        obtain ⟨r1, e1, hT1⟩ := hT.long
        rw [e1, hT1.nil]
        exact W.lret hx hb hret (key hP hK hD hS hH hE rfl) (fun q hq => hS.2.2 q hq) hd (hlocks := hlocks)
      · cases h
    · cases h
  | areturn =>
    obtain rfl : len = 1 := Nat.eq_of_beq_eq_true hl
    unfold pret at h
    dsimp only at h
    split at h
    · next a =>
      split at h
      · cases h
        intro ws tys H locs ls st1 hP hK hD hS hH hL hT hE hc hs
        obtain ⟨a1, E1, r1, h1, e1, hT1⟩ := hT.ref
        rw [e1, hT1.nil]
        exact W.aret hx hb hret (Or.inl ⟨_, rfl⟩) (Or.inr ⟨_, rfl⟩) (key hP hK hD hS hH hE ⟨a1, E1, h1, rfl⟩) (fun q hq => hS.2.2 q hq) hd (hlocks := hlocks)
      · cases h
    · cases h
  | return_ =>
    obtain rfl : len = 1 := Nat.eq_of_beq_eq_true hl
    unfold pret at h
    dsimp only at h
    split at h
    · split at h
      · cases h
        intro ws tys H locs ls st1 hP hK hD hS hH hL hT hE hc hs
        rw [hT.nil]
        exact W.vret hx hb hret (key hP hK hD hS hH hE trivial) (fun q hq => hS.2.2 q hq) hd (hlocks := hlocks)
      · cases h
    · cases h
  | _ => cases h
theorem call_step {O : Nat → List Value → PG → Option Value → PG → Prop} {Q : State → Prop} {pc k : Nat} {L : PL} {st as rest : List Value} {g g1 : PG} {rv : Option Value} {ins : Instr} {len : Nat} (hO : ∀ k as g rv g1, O k as g rv g1 → PMet l K D ka d k as g rv g1) (Ev : EnvOK p R s m args meth c cc own ini nL A ka K) (hRf : d + 1 ≤ R.frames) (hRl : 60 * (d + 1) ≤ R.locals) (hd : decode cc pc = .ok (ins, len)) (hl : lenOK ins len = true) (hp : pcall own ins st g = some (k, as, rest)) (ho : O k as g rv g1) (hroom : g1.2.1 ≤ c0 + R.cells ∧ g1.2.2 ≤ s0 + R.slots) (kk : PW p l e R s m args below meth c Q D A ka ws0 c0 s0 nL (pc + 3) L (rv.toList ++ rest) g1) : PW p l e R s m args below meth c Q D A ka ws0 c0 s0 nL pc L st g := by
  cases ins with
  | invokestatic i =>
    obtain rfl : len = 3 := Nat.eq_of_beq_eq_true hl
    unfold pcall at hp
    dsimp only at hp
    split at hp
    · next k1 n hq =>
      cases hz : Nat.ble n st.length && Nat.ble (pwords (st.drop n)) 8 with
      | false => rw [hz] at hp; cases hp
      | true =>
        rw [hz] at hp
        cases hp
        rw [Bool.and_eq_true] at hz
        exact w_callS Ev hRf hRl hd hq (Nat.le_of_ble_eq_true hz.1) (Nat.le_of_ble_eq_true hz.2) (hO _ _ _ _ _ ho) hroom kk
    · cases hp
  | invokespecial i =>
    obtain rfl : len = 3 := Nat.eq_of_beq_eq_true hl
    unfold pcall at hp
    dsimp only at hp
    split at hp
    · next k1 n hq =>
      split at hp
      · next a r hdr =>
        cases hz : Nat.ble (pwords r) 8 with
        | false => rw [hz] at hp; cases hp
        | true =>
          rw [hz] at hp
          cases hp
          exact w_callI Ev hRf hRl hd hq hdr (Nat.le_of_ble_eq_true hz) (hO _ _ _ _ _ ho) hroom kk
      · cases hp
    · cases hp
  | invokevirtual i =>
    obtain rfl : len = 3 := Nat.eq_of_beq_eq_true hl
    unfold pcall at hp
    dsimp only at hp
    split at hp
    · next n l1 hq =>
      split at hp
      · next a r hdr =>
        split at hp
        · next ci fs hg =>
          split at hp
          · next k1 hk =>
            cases hz : Nat.ble (pwords r) 8 with
            | false => rw [hz] at hp; cases hp
            | true =>
              rw [hz] at hp
              cases hp
              exact w_callV Ev hRf hRl hd hq hdr hg hk (Nat.le_of_ble_eq_true hz) (hO _ _ _ _ _ ho) hroom kk
          · cases hp
        · cases hp
      · cases hp
    · unfold pstr at hp
      split at hp
      · next z r =>
        cases hz : Nat.beq own 11 && (Nat.beq i 138 && (Nat.ble 20 z && (Nat.ble z 24 && Nat.ble (pwords r) 8))) with
        | false => rw [hz] at hp; cases hp
        | true =>
          rw [hz] at hp
          cases hp
          simp only [Bool.and_eq_true] at hz
          obtain ⟨z1, z2, z3, z4, z5⟩ := hz
          obtain rfl := Nat.eq_of_beq_eq_true z1
          obtain rfl := Nat.eq_of_beq_eq_true z2
          obtain ⟨q1, q2, q3, q4, q5⟩ := st_243
          exact w_callT (n := 0) Ev hRf hRl hd ⟨Nat.le_of_ble_eq_true z3, Nat.le_of_ble_eq_true z4⟩ q1 q2 q3 q4 q5 rfl (Nat.le_of_ble_eq_true z5) (hO _ _ _ _ _ ho) hroom kk
      · next j z r =>
        cases hz : Nat.beq own 11 && (Nat.beq i 144 && (Nat.ble 20 z && (Nat.ble z 24 && Nat.ble (pwords r) 8))) with
        | false => rw [hz] at hp; cases hp
        | true =>
          rw [hz] at hp
          cases hp
          simp only [Bool.and_eq_true] at hz
          obtain ⟨z1, z2, z3, z4, z5⟩ := hz
          obtain rfl := Nat.eq_of_beq_eq_true z1
          obtain rfl := Nat.eq_of_beq_eq_true z2
          obtain ⟨q1, q2, q3, q4, q5⟩ := st_244
          exact w_callT (n := 1) Ev hRf hRl hd ⟨Nat.le_of_ble_eq_true z3, Nat.le_of_ble_eq_true z4⟩ q1 q2 q3 q4 q5 rfl (Nat.le_of_ble_eq_true z5) (hO _ _ _ _ _ ho) hroom kk
      · cases hp
  | _ => cases hp
theorem run_ok {O : Nat → List Value → PG → Option Value → PG → Prop} {cd : PC} {gF : PG} (hO : ∀ k as g rv g1, O k as g rv g1 → PMet l K D ka d k as g rv g1) (Ev : EnvOK p R s m args meth c cc own ini nL A ka K) (hRf : d + 1 ≤ R.frames) (hRl : 60 * (d + 1) ≤ R.locals) (hcd : ∀ pc ins len, pfetch cd pc = some (ins, len) → decode cc pc = .ok (ins, len) ∧ lenOK ins len = true) (hret : meth.sig.returnType = rt) (hlocks : meth.locks = false) (hRc : R.cells = gF.2.1 - c0) (hRs : R.slots = gF.2.2 - s0) (hc0 : c0 ≤ gF.2.1) (hs0 : s0 ≤ gF.2.2) : ∀ (n pc : Nat) (L : PL) (st : List Value) (g : PG), RunN O own ini rt K cd n pc L st g r gF → PW p l e R s m args below meth c (MQ below (PQ D ka ws0 A r gF) args s (gF.2.1 - c0) (gF.2.2 - s0) A) D A ka ws0 c0 s0 nL pc L st g
  | 0, _, _, _, _, h => h.elim
  | n + 1, pc, L, st, g, h => by
    have hmono : ∀ k as g rv g1, O k as g rv g1 → g.2.1 ≤ g1.2.1 ∧ g.2.2 ≤ g1.2.2 := fun k as g rv g1 h => ⟨(hO k as g rv g1 h).2.1, (hO k as g rv g1 h).2.2.1⟩
    obtain ⟨ins, len, hf, h⟩ := h
    obtain ⟨hd, hl⟩ := hcd _ _ _ hf
    rcases h with ⟨h1, h2⟩ | ⟨S, h1, h2⟩ | ⟨k, as, rest, rv, g1, h1, h2, h3⟩
    · subst h2
      exact ret_ok Ev.1 Ev.2.1 hret hlocks hd hl h1
    · have hm := run_mono hmono n _ _ _ _ h2
      exact pstep_ok Ev ⟨by omega, by omega⟩ hd hl h1 (run_ok hO Ev hRf hRl hcd hret hlocks hRc hRs hc0 hs0 n _ _ _ _ h2)
    · have hm := run_mono hmono n _ _ _ _ h3
      exact call_step hO Ev hRf hRl hd hl h1 h2 ⟨by omega, by omega⟩ (run_ok hO Ev hRf hRl hcd hret hlocks hRc hRs hc0 hs0 n _ _ _ _ h3)
end Run
theorem my_ofW {l : Launch} {y : MethodName} {ws ws' : List Cond} {rm : Room} {Pc : Array Value → State → Prop} {Qc : Array Value → State → Outcome → State → Prop} {mc ms : Nat} {free : Addr → Prop} {cc : ByteArray} {maxL : Nat} {ret : Option FieldType}
    (hy : plainFor y = true) (hw : ws = Cond.code y cc maxL ret :: ws')
    (body : ∀ p e s m args below meth c s₁, BodyLoose p l y (headSpec ws rm) cc maxL ret e s m args below meth c s₁ → c.maxLocals = maxL → Pc args s →
      W p l e (headSpec ws rm).room s m args below meth c s.heap [] 0 0 (MQ below Qc args s mc ms free) (entryFrame m args maxL)) : Met l y ws rm Pc Qc mc ms free := by
  refine MetFree.of_bodySF (code := cc) (maxLocals := maxL) (ret := ret) hy ?_ ?_
  · intro args s m h hn
    obtain ⟨meth, c, h1, h2, h3, h4, h5, h6, -, -⟩ := Cond.code_spec hn (atoms_spec (ws := ws) h _ (by rw [hw]; exact List.mem_cons_self))
    exact ⟨meth, c, h1, h2, h3, h4, h5, h6⟩
  · intro p e s m args below meth c s₁ B hml hP _
    have hh0 : s₁.heap = s.heap := by rw [B.state]; rfl
    obtain ⟨t, a1, o, b1, b2, b3⟩ := body p e s m args below meth c s₁ B hml hP s₁ hh0 (Stand.of_body B)
    exact ⟨t, o, a1, b1, b2, ⟨b3.1, b3.2⟩⟩
theorem slen {ka : Nat → Nat} {ws : va_W} : ∀ {as av : List Value}, SRel ka ws as av → (lg_sl av).length = (pargs as).length
  | [], [], _ => rfl
  | v :: as, w :: av, h => by
    have ih := slen h.2
    have e : (lg_sl (w :: av)).length = (if w.category = 2 then 2 else 1) + (lg_sl av).length := by
      simp only [lg_sl, List.flatMap_cons, List.length_append]
      split <;> rfl
    rw [e, h.1.cat, ih]
    have hv := h.1
    cases v with
    | float x => exact hv.elim
    | double x => exact hv.elim
    | long x => simp [pargs, Value.category]; omega
    | _ => simp [pargs, Value.category]; omega
  | [], _ :: _, h => h.elim
  | _ :: _, [], h => h.elim
theorem pargs_at {ka : Nat → Nat} {ws : va_W} : ∀ {as av : List Value} (j i : Nat) (v : Value), SRel ka ws as av → (pargs as)[i]? = some (some v) → ∃ w, (j + i, w) ∈ lv_args j av ∧ VRel ka ws v w
  | [], [], j, i, v, _, hi => by simp [pargs] at hi
  | u :: as, w :: av, j, i, v, h, hi => by
    have hu := h.1
    have c1 : ∀ (hc : u.category = 1) (hp : pargs (u :: as) = some u :: pargs as), ∃ w', (j + i, w') ∈ lv_args j (w :: av) ∧ VRel ka ws v w' := by
      intro hc hp
      rw [hp] at hi
      cases i with
      | zero =>
        simp only [List.getElem?_cons_zero, Option.some.injEq] at hi
        subst hi
        exact ⟨w, List.mem_cons_self, hu⟩
      | succ i =>
        simp only [List.getElem?_cons_succ] at hi
        obtain ⟨w', h1, h2⟩ := pargs_at (j + 1) i v h.2 hi
        refine ⟨w', List.mem_cons_of_mem _ ?_, h2⟩
        rw [if_neg (by rw [hu.cat, hc]; decide), show j + (i + 1) = j + 1 + i by omega]
        exact h1
    cases u with
    | float x => exact hu.elim
    | double x => exact hu.elim
    | long x =>
      have hp : pargs (.long x :: as) = some (.long x) :: none :: pargs as := rfl
      rw [hp] at hi
      match i, hi with
      | 0, hi =>
        simp only [List.getElem?_cons_zero, Option.some.injEq] at hi
        subst hi
        exact ⟨w, List.mem_cons_self, hu⟩
      | 1, hi => simp at hi
      | i + 2, hi =>
        simp only [List.getElem?_cons_succ] at hi
        obtain ⟨w', h1, h2⟩ := pargs_at (j + 2) i v h.2 hi
        refine ⟨w', List.mem_cons_of_mem _ ?_, h2⟩
        rw [if_pos (by rw [hu.cat]; rfl), show j + (i + 2) = j + 2 + i by omega]
        exact h1
    | int x => exact c1 rfl rfl
    | null => exact c1 rfl rfl
    | ref x => exact c1 rfl rfl
    | retAddr x => exact c1 rfl rfl
  | [], _ :: _, _, _, _, h, _ => h.elim
  | _ :: _, [], _, _, _, h, _ => h.elim
theorem LRel.init {ka : Nat → Nat} {ws : va_W} {as av : List Value} {n : Nat} (h : SRel ka ws as av) (hl : (pargs as).length ≤ n) : LRel ka ws (pinit n as) n ((lg_sl av ++ List.replicate (n - (lg_sl av).length) Slot.unset).toArray) := by
  refine ⟨by unfold pinit; rw [List.length_append, List.length_replicate]; omega, lv_args 0 av, lv_entry av (by rw [slen h]; exact hl), fun i v hi => ?_⟩
  unfold pinit at hi
  by_cases hj : i < (pargs as).length
  · rw [List.getElem?_append_left hj] at hi
    have := pargs_at 0 i v h hi
    rwa [Nat.zero_add] at this
  · rw [List.getElem?_append_right (by omega), List.getElem?_replicate] at hi
    split at hi <;> cases hi
def codeT : List PC := [cd0, cd1, cd2, cd3, cd4, cd5, cd6, cd7, cd8, cd9, cd10, cd11, cd12, cd13, cd14, cd15, cd16, cd17, cd18, cd19, cd20, cd21, cd22, cd23, cd24, cd25, cd26, cd27, cd28, cd29, cd30, cd31, cd32, cd33, cd34, cd35, cd36, cd37, cd38, cd39, cd40, cd41, cd42, cd43, cd44, cd45, cd46, cd47, cd48, cd49, cd50, cd51, cd52, cd53, cd54, cd55, cd56, cd57, cd58, cd59, cd60, cd61, cd62, cd63, cd64, cd65, cd66, cd67, cd68, cd69, cd70, cd71, cd72, cd73, cd74, cd75, cd76, cd77, cd78, cd79, cd80, cd81, cd82, cd83, cd84, cd85, cd86, cd87, cd88, cd89, cd90, cd91, cd92, cd93, cd94, cd95, cd96, cd97, cd98, cd99, cd100, cd101, cd102, cd103, cd104, cd105, cd106, cd107, cd108, cd109, cd110, cd111, cd112, cd113, cd114, cd115, cd116, cd117, cd118, cd119, cd120, cd121, cd122, cd123, cd124, cd125, cd126, cd127, cd128, cd129, cd130, cd131, cd132, cd133, cd134, cd135, cd136, cd137, cd138, cd139, cd140, cd141, cd142, cd143, cd144, cd145, cd146, cd147, cd148, cd149, cd150, cd151, cd152, cd153, cd154, cd155, cd156, cd157, cd158, cd159, cd160, cd161, cd162, cd163, cd164, cd165, cd166, cd167, cd168, cd169, cd170, cd171, cd172, cd173, cd174, cd175, cd176, cd177, cd178, cd179, cd180, cd181, cd182, cd183, cd184, cd185, cd186, cd187, cd188, cd189, cd190, cd191, cd192, cd193, cd194, cd195, cd196, cd197, cd198, cd199, cd200, cd201, cd202, cd203, cd204, cd205, cd206, cd207, cd208, cd209, cd210, cd211, cd212, cd213, cd214, cd215, cd216, cd217, cd218, cd219, cd220, cd221, cd222, cd223, cd224, cd225, cd226, cd227, cd228, cd229, cd230, cd231, cd232, cd233, cd234, cd235, cd236, cd237, cd238, cd239, cd240, cd241, cd242, cd243, cd244]
def allOK : List MI → List PC → Prop
  | [], [] => True
  | e :: es, c :: cs => (∀ ch ∈ c, ∀ x ∈ ch, decode (byAt e.2.1) x.1 = .ok (x.2.1, x.2.2)) ∧ allOK es cs
  | _, _ => False
theorem allOK.at : ∀ {es : List MI} {cs : List PC} (k : Nat), allOK es cs → k < es.length → ∀ ch ∈ cs.getD k [], ∀ x ∈ ch, decode (byAt (es.getD k mi0).2.1) x.1 = .ok (x.2.1, x.2.2)
  | [], _, k, _, h => absurd h (Nat.not_lt_zero k)
  | e :: es, [], _, h, _ => h.elim
  | e :: es, c :: cs, 0, h, _ => h.1
  | e :: es, c :: cs, k + 1, h, hk => allOK.at k h.2 (Nat.lt_of_succ_lt_succ hk)
set_option maxRecDepth 100000 in
theorem codeT_ok : allOK mthL codeT := ⟨cd0_ok, cd1_ok, cd2_ok, cd3_ok, cd4_ok, cd5_ok, cd6_ok, cd7_ok, cd8_ok, cd9_ok, cd10_ok, cd11_ok, cd12_ok, cd13_ok, cd14_ok, cd15_ok, cd16_ok, cd17_ok, cd18_ok, cd19_ok, cd20_ok, cd21_ok, cd22_ok, cd23_ok, cd24_ok, cd25_ok, cd26_ok, cd27_ok, cd28_ok, cd29_ok, cd30_ok, cd31_ok, cd32_ok, cd33_ok, cd34_ok, cd35_ok, cd36_ok, cd37_ok, cd38_ok, cd39_ok, cd40_ok, cd41_ok, cd42_ok, cd43_ok, cd44_ok, cd45_ok, cd46_ok, cd47_ok, cd48_ok, cd49_ok, cd50_ok, cd51_ok, cd52_ok, cd53_ok, cd54_ok, cd55_ok, cd56_ok, cd57_ok, cd58_ok, cd59_ok, cd60_ok, cd61_ok, cd62_ok, cd63_ok, cd64_ok, cd65_ok, cd66_ok, cd67_ok, cd68_ok, cd69_ok, cd70_ok, cd71_ok, cd72_ok, cd73_ok, cd74_ok, cd75_ok, cd76_ok, cd77_ok, cd78_ok, cd79_ok, cd80_ok, cd81_ok, cd82_ok, cd83_ok, cd84_ok, cd85_ok, cd86_ok, cd87_ok, cd88_ok, cd89_ok, cd90_ok, cd91_ok, cd92_ok, cd93_ok, cd94_ok, cd95_ok, cd96_ok, cd97_ok, cd98_ok, cd99_ok, cd100_ok, cd101_ok, cd102_ok, cd103_ok, cd104_ok, cd105_ok, cd106_ok, cd107_ok, cd108_ok, cd109_ok, cd110_ok, cd111_ok, cd112_ok, cd113_ok, cd114_ok, cd115_ok, cd116_ok, cd117_ok, cd118_ok, cd119_ok, cd120_ok, cd121_ok, cd122_ok, cd123_ok, cd124_ok, cd125_ok, cd126_ok, cd127_ok, cd128_ok, cd129_ok, cd130_ok, cd131_ok, cd132_ok, cd133_ok, cd134_ok, cd135_ok, cd136_ok, cd137_ok, cd138_ok, cd139_ok, cd140_ok, cd141_ok, cd142_ok, cd143_ok, cd144_ok, cd145_ok, cd146_ok, cd147_ok, cd148_ok, cd149_ok, cd150_ok, cd151_ok, cd152_ok, cd153_ok, cd154_ok, cd155_ok, cd156_ok, cd157_ok, cd158_ok, cd159_ok, cd160_ok, cd161_ok, cd162_ok, cd163_ok, cd164_ok, cd165_ok, cd166_ok, cd167_ok, cd168_ok, cd169_ok, cd170_ok, cd171_ok, cd172_ok, cd173_ok, cd174_ok, cd175_ok, cd176_ok, cd177_ok, cd178_ok, cd179_ok, cd180_ok, cd181_ok, cd182_ok, cd183_ok, cd184_ok, cd185_ok, cd186_ok, cd187_ok, cd188_ok, cd189_ok, cd190_ok, cd191_ok, cd192_ok, cd193_ok, cd194_ok, cd195_ok, cd196_ok, cd197_ok, cd198_ok, cd199_ok, cd200_ok, cd201_ok, cd202_ok, cd203_ok, cd204_ok, cd205_ok, cd206_ok, cd207_ok, cd208_ok, cd209_ok, cd210_ok, cd211_ok, cd212_ok, cd213_ok, cd214_ok, cd215_ok, cd216_ok, cd217_ok, cd218_ok, cd219_ok, cd220_ok, cd221_ok, cd222_ok, cd223_ok, cd224_ok, cd225_ok, cd226_ok, cd227_ok, cd228_ok, cd229_ok, cd230_ok, cd231_ok, cd232_ok, cd233_ok, cd234_ok, cd235_ok, cd236_ok, cd237_ok, cd238_ok, cd239_ok, cd240_ok, cd241_ok, cd242_ok, cd243_ok, cd244_ok, trivial⟩
set_option maxRecDepth 100000 in
theorem codeT_len : ∀ c ∈ codeT, ∀ ch ∈ c, ∀ x ∈ ch, lenOK x.2.1 x.2.2 = true := by decide +kernel
theorem getD_mem' {α : Type} {l : List α} {k : Nat} {d : α} : l.getD k d ∈ l ∨ l.getD k d = d := by
  rw [List.getD_eq_getElem?_getD]
  cases h : l[k]? with
  | none => exact Or.inr rfl
  | some x => exact Or.inl (List.mem_of_getElem? h)
theorem pfetch_mem {cd : PC} {pc : Nat} {ins : Instr} {len : Nat} (h : pfetch cd pc = some (ins, len)) : ∃ ch ∈ cd, (pc, ins, len) ∈ ch := by
  unfold pfetch at h
  rcases getD_mem' (l := cd) (k := pc / 16) (d := []) with h1 | h1
  · exact ⟨_, h1, alook_mem h⟩
  · rw [h1] at h; cases h
def minit (k : Nat) : Bool := decide ((miN k).name = "<init>")
/-- what length and charAt of a constant text answer -/
def StrR (d k : Nat) (as : List Value) (g : PG) (r : Option Value) (g' : PG) : Prop := g' = g ∧ ((k = 243 ∧ 1 ≤ d ∧ ∃ n, n < 5 ∧ as = [.retAddr (20 + n)] ∧ r = some (.int (nI (strN.getD n 0)))) ∨ (k = 244 ∧ 3 ≤ d ∧ ∃ n j, n < 5 ∧ j < strN.getD n 0 ∧ as = [.retAddr (20 + n), .int (nI j)] ∧ r = some (.int ((strB.getD n []).getD j 0))))
def CallR (K : PK) : Nat → Nat → List Value → PG → Option Value → PG → Prop
  | 0, _, _, _, _, _ => False
  | d + 1, k, as, g, r, g' => StrR d k as g r g' ∨ k < mthL.length ∧ (pargs as).length ≤ (mrec k).2.2.1 ∧ ∃ n, RunN (CallR K d) (mrec k).2.2.2.2 (minit k) (mrec k).2.2.2.1 K (codeT.getD k []) n 0 (pinit (mrec k).2.2.1 as) [] g r g'
theorem getD_mem_lt {α : Type} {l : List α} {k : Nat} {d : α} (h : k < l.length) : l.getD k d ∈ l := by
  rw [List.getD_eq_getElem?_getD, List.getElem?_eq_getElem h]
  exact List.getElem_mem h
theorem call_body {l : Launch} {K : PK} {D : va_G} {ka : Nat → Nat} {d n : Nat} {O : Nat → List Value → PG → Option Value → PG → Prop} {e : MI} {ini : Bool} {cd : PC} {as : List Value} {g g' : PG} {r : Option Value} (hO : ∀ k as g rv g1, O k as g rv g1 → PMet l K D ka d k as g rv g1) (hmo : mOK e) (hini : ini = true → e.1.name = "<init>") (hcd : ∀ pc ins len, pfetch cd pc = some (ins, len) → decode (byAt e.2.1) pc = .ok (ins, len) ∧ lenOK ins len = true) (hlen : (pargs as).length ≤ e.2.2.1) (hrun : RunN O e.2.2.2.2 ini e.2.2.2.1 K cd n 0 (pinit e.2.2.1 as) [] g r g') (ws : va_W) (tys : List (ClassId × FieldType)) (sz : Nat) (av : List Value) (hH : HRel ka ws tys g.1) (hT : SRel ka ws as av) : Met l e.1 (Cond.code e.1 (byAt e.2.1) e.2.2.1 e.2.2.2.1 :: GW) (rmD (d + 1) (g'.2.1 - g.2.1) (g'.2.2 - g.2.2)) (va_Pc av (PP K D ka ws tys sz)) (PQ D ka ws (va_A ws sz) r g') (g'.2.1 - g.2.1) (g'.2.2 - g.2.2) (va_A ws sz) := by
  have hmono := run_mono (fun k as g rv g1 h => ⟨(hO k as g rv g1 h).2.1, (hO k as g rv g1 h).2.2.1⟩) n _ _ _ _ hrun
  obtain ⟨w1, w2, w3, w4, w5, w6, w7⟩ := hmo
  refine my_ofW (cc := byAt e.2.1) (maxL := e.2.2.1) (ret := e.2.2.2.1) (ws' := GW) w4 rfl ?_
  intro p en s m args below meth c s₁ B hml hv
  obtain ⟨rfl, hsz, hP, hK, hD, hCE, hNW⟩ := hv
  have hts0 := atoms_spec (ws := Cond.code e.1 (byAt e.2.1) e.2.2.1 e.2.2.2.1 :: GW) B.pre
  have hts : ∀ w ∈ GW, w.before av.toArray s = true := fun w hw => hts0 w (List.mem_cons_of_mem _ hw)
  have hown : s.vm.findClass (cnm e.2.2.2.2) = some m.cls := by rw [← w3]; exact findClass_of_methodNamed B.named
  have hin : ini = true → meth.name = "<init>" := fun h => (name_of_methodNamed B.named B.method).1.trans (hini h)
  have Ev : EnvOK p (rmD (d + 1) (g'.2.1 - g.2.1) (g'.2.2 - g.2.2)) s m av.toArray meth c (byAt e.2.1) e.2.2.2.2 ini e.2.2.1 (va_A ws sz) ka K := ⟨B.exec, B.bytes, hml, hown, hts, hNW, hCE, fun q hq => Or.inr (by rw [← hsz]; exact hq), hin, by show 1 ≤ d + 1; omega, by show 60 ≤ 60 * (d + 1); omega⟩
  have hPW := run_ok (p := p) (e := en) (below := below) (ws0 := ws) (c0 := g.2.1) (s0 := g.2.2) hO Ev (Nat.le_refl _) (Nat.le_refl _) hcd B.returns B.notSynchronized rfl rfl hmono.1 hmono.2 n _ _ _ _ hrun
  have h0 := hPW ws tys s.heap [] _ [] hP hK hD.self va_S.rf hH (LRel.init hT hlen) trivial Ext.rf (Nat.le_refl _) (Nat.le_refl _)
  rw [Nat.sub_self, Nat.sub_self] at h0
  rw [lg_entry_eq]
  exact h0
theorem code_at {k : Nat} (hk : k < mthL.length) : ∀ pc ins len, pfetch (codeT.getD k []) pc = some (ins, len) → decode (byAt (mrec k).2.1) pc = .ok (ins, len) ∧ lenOK ins len = true := fun pc ins len hf => by
  obtain ⟨ch, h1, h2⟩ := pfetch_mem hf
  have ha := codeT_ok.at k hk ch h1 _ h2
  have hb : lenOK ins len = true := by
    rcases getD_mem' (l := codeT) (k := k) (d := []) with h3 | h3
    · exact codeT_len _ h3 ch h1 _ h2
    · rw [h3] at h1; cases h1
  exact ⟨ha, hb⟩
