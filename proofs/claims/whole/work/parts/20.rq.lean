/-! walking with a post-condition -/
theorem iI_div {a b : Int} (ha : 0 ≤ a ∧ a < 2147483648) (hb : 0 < b ∧ b < 2147483648) : iI a / iI b = iI (a / b) := by
  have h1 := iI_toInt (z := a) (by omega)
  have h2 := iI_toInt (z := b) (by omega)
  have h3 : 0 ≤ a / b := Int.ediv_nonneg ha.1 (by omega)
  have h4 : a / b ≤ a := Int.ediv_le_self _ ha.1
  apply Int32.toInt_inj.mp
  rw [Int32.toInt_div, h1, h2, iI_toInt (by omega), Int.tdiv_eq_ediv_of_nonneg ha.1]
  show Int.bmod (a / b) 4294967296 = _
  rw [Int.bmod_def]
  omega
theorem iI_rem {a b : Int} (ha : 0 ≤ a ∧ a < 2147483648) (hb : 0 < b ∧ b < 2147483648) : iI a - iI a / iI b * iI b = iI (a % b) := by
  rw [iI_div ha hb, iI_mul, iI_sub]
  congr 1
  have := Int.emod_add_mul_ediv a b
  rw [Int.mul_comm] at this
  omega
theorem iI_ne0 {b : Int} (hb : 0 < b ∧ b < 2147483648) : ¬ iI b = 0 := by
  rw [← iI_0, iI_inj (by omega) (by omega)]
  omega
/-- longs told as Int -/
def lL (z : Int) : Int64 := Int64.ofInt z
theorem lL_toInt {z : Int} (h : -9223372036854775808 ≤ z ∧ z < 9223372036854775808) : (lL z).toInt = z := by
  unfold lL
  rw [Int64.toInt_ofInt]
  show Int.bmod z 18446744073709551616 = z
  rw [Int.bmod_def]
  omega
theorem iI_64 {z : Int} (h : -2147483648 ≤ z ∧ z < 2147483648) : (iI z).toInt64 = lL z := by
  apply Int64.toInt_inj.mp
  rw [Int32.toInt_toInt64, iI_toInt h, lL_toInt (by omega)]
theorem lL_add (a b : Int) : lL a + lL b = lL (a + b) := (Int64.ofInt_add ..).symm
theorem lL_sub (a b : Int) : lL a - lL b = lL (a - b) := (Int64.ofInt_sub ..).symm
theorem lL_mul (a b : Int) : lL a * lL b = lL (a * b) := (Int64.ofInt_mul ..).symm
theorem lL_lt {a b : Int} (ha : -9223372036854775808 ≤ a ∧ a < 9223372036854775808) (hb : -9223372036854775808 ≤ b ∧ b < 9223372036854775808) : lL a < lL b ↔ a < b := by
  rw [Int64.lt_iff_toInt_lt, lL_toInt ha, lL_toInt hb]
theorem lL_inj {a b : Int} (ha : -9223372036854775808 ≤ a ∧ a < 9223372036854775808) (hb : -9223372036854775808 ≤ b ∧ b < 9223372036854775808) : lL a = lL b ↔ a = b := by
  constructor
  · intro h
    rw [← lL_toInt ha, ← lL_toInt hb, h]
  · rintro rfl; rfl
theorem lL_32 {a : Int} : (lL a).toInt32 = iI a := by
  unfold lL iI
  exact Int64.toInt32_ofInt
def RQ (K : PK) (d own : Nat) (ini : Bool) (rt : Option FieldType) (cd : PC) (pc : Nat) (L : PL) (st : List Value) (g : PG) (Q : Option Value → PG → Prop) : Prop := ∃ r g', Runs K d own ini rt cd pc L st g r g' ∧ Q r g'
def CQ (K : PK) (d k : Nat) (as : List Value) (g : PG) (Q : Option Value → PG → Prop) : Prop := ∃ r g', CallR K d k as g r g' ∧ Q r g'
section RQRules
variable {K : PK} {d own : Nat} {ini : Bool} {rt : Option FieldType} {cd : PC} {pc : Nat} {L : PL} {st : List Value} {g : PG} {Q : Option Value → PG → Prop}
theorem RQ.seg (n : Nat) {pc' : Nat} {L' : PL} {st' : List Value} {g1 : PG} (h : psteps own ini K cd n pc L st g = some (pc', L', st', g1)) (k : RQ K d own ini rt cd pc' L' st' g1 Q) : RQ K d own ini rt cd pc L st g Q := by
  obtain ⟨r, g', h1, h2⟩ := k
  exact ⟨r, g', Runs.seg n h h1, h2⟩
theorem RQ.step {ins : Instr} {len : Nat} {S : PS} (hf : pfetch cd pc = some (ins, len)) (h : pstep own ini K ins pc L st g = some S) (k : RQ K d own ini rt cd S.1 S.2.1 S.2.2.1 S.2.2.2 Q) : RQ K d own ini rt cd pc L st g Q := by
  obtain ⟨r, g', h1, h2⟩ := k
  exact ⟨r, g', Runs.step hf h h1, h2⟩
theorem RQ.to {L' : PL} {st' : List Value} (hL : L = L') (hs : st = st') (k : RQ K d own ini rt cd pc L' st' g Q) : RQ K d own ini rt cd pc L st g Q := by
  rw [hL, hs]; exact k
theorem RQ.ret {ins : Instr} {len : Nat} {r : Option Value} (hf : pfetch cd pc = some (ins, len)) (h : pret rt ins st = some r) (q : Q r g) : RQ K d own ini rt cd pc L st g Q := ⟨r, g, Runs.ret hf h, q⟩
theorem RQ.call {ins : Instr} {len k : Nat} {as rest : List Value} {rv : Option Value} {g1 : PG} (hf : pfetch cd pc = some (ins, len)) (hp : pcall own ins st g = some (k, as, rest)) (ho : CallR K d k as g rv g1) (k : RQ K d own ini rt cd (pc + 3) L (rv.toList ++ rest) g1 Q) : RQ K d own ini rt cd pc L st g Q := by
  obtain ⟨r, g', h1, h2⟩ := k
  exact ⟨r, g', Runs.call hf hp ho h1, h2⟩
theorem RQ.callQ {ins : Instr} {len k : Nat} {as rest : List Value} {Q1 : Option Value → PG → Prop} (hf : pfetch cd pc = some (ins, len)) (hp : pcall own ins st g = some (k, as, rest)) (ho : CQ K d k as g Q1) (k : ∀ rv g1, Q1 rv g1 → RQ K d own ini rt cd (pc + 3) L (rv.toList ++ rest) g1 Q) : RQ K d own ini rt cd pc L st g Q := by
  obtain ⟨rv, g1, h1, h2⟩ := ho
  exact RQ.call hf hp h1 (k rv g1 h2)
theorem RQ.if2 {c : ClassFile.Cond} {off : Int} {len t : Nat} {x y : Int32} {a b : Int} (hf : pfetch cd pc = some (.if_icmp c off, len)) (ht : ptgt pc off = some t) (hx : x = iI a) (hy : y = iI b) (ra : -2147483648 ≤ a ∧ a < 2147483648) (rb : -2147483648 ≤ b ∧ b < 2147483648) (k1 : zcmp c a b → RQ K d own ini rt cd t L st g Q) (k2 : ¬ zcmp c a b → RQ K d own ini rt cd (pc + 3) L st g Q) : RQ K d own ini rt cd pc L (.int y :: .int x :: st) g Q := by
  subst hx hy
  cases h : icmp c (iI a) (iI b) with
  | true => exact RQ.step hf (S := (t, L, st, g)) (by show (ptgt pc off).map _ = _; rw [ht, h]; rfl) (k1 ((icmp_z ra rb).mp h))
  | false => exact RQ.step hf (S := (pc + 3, L, st, g)) (by show (ptgt pc off).map _ = _; rw [ht, h]; rfl) (k2 (fun q => by rw [(icmp_z ra rb).mpr q] at h; cases h))
theorem RQ.if1 {c : ClassFile.Cond} {off : Int} {len t : Nat} {x : Int32} {a : Int} (hf : pfetch cd pc = some (.ifCond c off, len)) (ht : ptgt pc off = some t) (hx : x = iI a) (ra : -2147483648 ≤ a ∧ a < 2147483648) (k1 : zcmp c a 0 → RQ K d own ini rt cd t L st g Q) (k2 : ¬ zcmp c a 0 → RQ K d own ini rt cd (pc + 3) L st g Q) : RQ K d own ini rt cd pc L (.int x :: st) g Q := by
  subst hx
  cases h : icmp c (iI a) 0 with
  | true => exact RQ.step hf (S := (t, L, st, g)) (by show (ptgt pc off).map _ = _; rw [ht, h]; rfl) (k1 ((icmp_z (b := 0) ra (by omega)).mp h))
  | false => exact RQ.step hf (S := (pc + 3, L, st, g)) (by show (ptgt pc off).map _ = _; rw [ht, h]; rfl) (k2 (fun q => by have := (icmp_z (c := c) (b := 0) ra (by omega)).mpr q; rw [iI_0, h] at this; cases this))
/-- an element of an int array -/
theorem RQ.iald {len a n : Nat} {f : Int → Int} {z : Int} {x : Int32} (hf : pfetch cd pc = some (.iaload, len)) (hx : x = iI z) (ha : g.1[a]? = some (.inl (0, n, .inl (zA f)))) (hi : 0 ≤ z ∧ z < n) (hn : n < 2147483648) (k : RQ K d own ini rt cd (pc + 1) L (.int (iI (f z)) :: st) g Q) : RQ K d own ini rt cd pc L (.int x :: .ref a :: st) g Q := by
  subst hx
  refine RQ.step hf (S := (pc + 1, L, .int (iI (f z)) :: st, g)) ?_ k
  show piald K (pc + 1) L g (.int (iI z) :: .ref a :: st) = _
  simp only [piald, ha, pin_z hi hn, iI_clamp (show 0 ≤ z ∧ z < 2147483648 by omega), zA_at hi.1, cond_true]
theorem RQ.bald {len a n : Nat} {f : Int → Int} {z : Int} {x : Int32} (hf : pfetch cd pc = some (.baload, len)) (hx : x = iI z) (ha : g.1[a]? = some (.inl (1, n, .inl (zA f)))) (hi : 0 ≤ z ∧ z < n) (hn : n < 2147483648) (k : RQ K d own ini rt cd (pc + 1) L (.int (iI (f z)) :: st) g Q) : RQ K d own ini rt cd pc L (.int x :: .ref a :: st) g Q := by
  subst hx
  refine RQ.step hf (S := (pc + 1, L, .int (iI (f z)) :: st, g)) ?_ k
  show pbald (pc + 1) L g (.int (iI z) :: .ref a :: st) = _
  simp only [pbald, ha, pin_z hi hn, iI_clamp (show 0 ≤ z ∧ z < 2147483648 by omega), zA_at hi.1, cond_true]
/-- an element of a constant -/
theorem RQ.kald {len a n : Nat} {f : Int → Int} {z : Int} {x : Int32} (hf : pfetch cd pc = some (.iaload, len)) (hx : x = iI z) (ha : K a = some (n, zA f)) (hi : 0 ≤ z ∧ z < n) (hn : n < 2147483648) (k : RQ K d own ini rt cd (pc + 1) L (.int (iI (f z)) :: st) g Q) : RQ K d own ini rt cd pc L (.int x :: .retAddr a :: st) g Q := by
  subst hx
  refine RQ.step hf (S := (pc + 1, L, .int (iI (f z)) :: st, g)) ?_ k
  show piald K (pc + 1) L g (.int (iI z) :: .retAddr a :: st) = _
  simp only [piald, ha, pin_z hi hn, iI_clamp (show 0 ≤ z ∧ z < 2147483648 by omega), zA_at hi.1, cond_true]
theorem RQ.kalen {len a n : Nat} {f : Nat → Int32} (hf : pfetch cd pc = some (.arraylength, len)) (ha : K a = some (n, f)) (k : RQ K d own ini rt cd (pc + 1) L (.int (iI n) :: st) g Q) : RQ K d own ini rt cd pc L (.retAddr a :: st) g Q := by
  refine RQ.step hf (S := (pc + 1, L, .int (iI n) :: st, g)) ?_ k
  show palen K (pc + 1) L g (.retAddr a :: st) = _
  simp only [palen, ha, iI_nI]
theorem RQ.alen {len a n t : Nat} {f} (hf : pfetch cd pc = some (.arraylength, len)) (ha : g.1[a]? = some (.inl (t, n, f))) (k : RQ K d own ini rt cd (pc + 1) L (.int (iI n) :: st) g Q) : RQ K d own ini rt cd pc L (.ref a :: st) g Q := by
  refine RQ.step hf (S := (pc + 1, L, .int (iI n) :: st, g)) ?_ k
  show palen K (pc + 1) L g (.ref a :: st) = _
  simp only [palen, ha, iI_nI]
theorem RQ.iast {len a n : Nat} {f : Int → Int} {z v : Int} {x y : Int32} {g1 : PG} (hf : pfetch cd pc = some (.iastore, len)) (hx : x = iI z) (hy : y = iI v) (ha : g.1[a]? = some (.inl (0, n, .inl (zA f)))) (hi : 0 ≤ z ∧ z < n) (hn : n < 2147483648) (hg : (g.1.set a (.inl (0, n, .inl (zA (usz f z v)))), g.2) = g1) (k : RQ K d own ini rt cd (pc + 1) L st g1 Q) : RQ K d own ini rt cd pc L (.int y :: .int x :: .ref a :: st) g Q := by
  subst hx hy hg
  refine RQ.step hf (S := (pc + 1, L, st, (g.1.set a (.inl (0, n, .inl (zA (usz f z v)))), g.2))) ?_ k
  show piast (pc + 1) L g (.int (iI v) :: .int (iI z) :: .ref a :: st) = _
  simp only [piast, ha, pin_z hi hn, iI_clamp (show 0 ≤ z ∧ z < 2147483648 by omega), zA_up hi.1, cond_true]
theorem RQ.bast {len a n : Nat} {f : Int → Int} {z v : Int} {x y : Int32} {g1 : PG} (hf : pfetch cd pc = some (.bastore, len)) (hx : x = iI z) (hy : y.toInt8.toInt32 = iI v) (ha : g.1[a]? = some (.inl (1, n, .inl (zA f)))) (hi : 0 ≤ z ∧ z < n) (hn : n < 2147483648) (hg : (g.1.set a (.inl (1, n, .inl (zA (usz f z v)))), g.2) = g1) (k : RQ K d own ini rt cd (pc + 1) L st g1 Q) : RQ K d own ini rt cd pc L (.int y :: .int x :: .ref a :: st) g Q := by
  subst hx hg
  refine RQ.step hf (S := (pc + 1, L, st, (g.1.set a (.inl (1, n, .inl (zA (usz f z v)))), g.2))) ?_ k
  show pbast (pc + 1) L g (.int y :: .int (iI z) :: .ref a :: st) = _
  simp only [pbast, ha, pin_z hi hn, iI_clamp (show 0 ≤ z ∧ z < 2147483648 by omega), vp_nar_byte, hy, zA_up hi.1, cond_true]
/-- a row of an array of arrays -/
theorem RQ.aald {len a n b : Nat} {z : Int} {x : Int32} (hf : pfetch cd pc = some (.aaload, len)) (hx : x = iI z) (ha : g.1[a]? = some (.inl (4, n, .inr (.inr (.inr (.inr (fun j => if j < n then some (b + j) else none))))))) (hi : 0 ≤ z ∧ z < n) (hn : n < 2147483648) (k : RQ K d own ini rt cd (pc + 1) L (.ref (b + z.toNat) :: st) g Q) : RQ K d own ini rt cd pc L (.int x :: .ref a :: st) g Q := by
  subst hx
  refine RQ.step hf (S := (pc + 1, L, .ref (b + z.toNat) :: st, g)) ?_ k
  show paald (pc + 1) L g (.int (iI z) :: .ref a :: st) = _
  simp only [paald, ha, pin_z hi hn, iI_clamp (show 0 ≤ z ∧ z < 2147483648 by omega), if_pos (show z.toNat < n by omega)]
  rfl
theorem RQ.idiv {len : Nat} {a b : Int} {x y : Int32} (hf : pfetch cd pc = some (.idiv, len)) (hx : x = iI a) (hy : y = iI b) (ha : 0 ≤ a ∧ a < 2147483648) (hb : 0 < b ∧ b < 2147483648) (k : RQ K d own ini rt cd (pc + 1) L (.int (iI (a / b)) :: st) g Q) : RQ K d own ini rt cd pc L (.int y :: .int x :: st) g Q := by
  subst hx hy
  refine RQ.step hf (S := (pc + 1, L, .int (iI (a / b)) :: st, g)) ?_ k
  show (if iI b = 0 then none else some (pc + 1, L, Value.int (iI a / iI b) :: st, g)) = _
  rw [if_neg (iI_ne0 hb), iI_div ha hb]
theorem RQ.irem {len : Nat} {a b : Int} {x y : Int32} (hf : pfetch cd pc = some (.irem, len)) (hx : x = iI a) (hy : y = iI b) (ha : 0 ≤ a ∧ a < 2147483648) (hb : 0 < b ∧ b < 2147483648) (k : RQ K d own ini rt cd (pc + 1) L (.int (iI (a % b)) :: st) g Q) : RQ K d own ini rt cd pc L (.int y :: .int x :: st) g Q := by
  subst hx hy
  refine RQ.step hf (S := (pc + 1, L, .int (iI (a % b)) :: st, g)) ?_ k
  show (if iI b = 0 then none else some (pc + 1, L, Value.int (iI a - iI a / iI b * iI b) :: st, g)) = _
  rw [if_neg (iI_ne0 hb), iI_rem ha hb]
theorem lg_cmp_z {a b : Int} (ha : -9223372036854775808 ≤ a ∧ a < 9223372036854775808) (hb : -9223372036854775808 ≤ b ∧ b < 9223372036854775808) : lg_cmp (lL a) (lL b) = iI (if b < a then 1 else if a = b then 0 else -1) := by
  unfold lg_cmp
  by_cases h1 : b < a
  · rw [if_pos ((lL_lt hb ha).mpr h1), if_pos h1]; rfl
  · rw [if_neg (fun q => h1 ((lL_lt hb ha).mp q)), if_neg h1]
    by_cases h2 : a = b
    · rw [if_pos ((lL_inj ha hb).mpr h2), if_pos h2]; rfl
    · rw [if_neg (fun q => h2 ((lL_inj ha hb).mp q)), if_neg h2]; rfl
theorem RQ.lcmp {len : Nat} {a b : Int} {x y : Int64} (hf : pfetch cd pc = some (.lcmp, len)) (hx : x = lL a) (hy : y = lL b) (ha : -9223372036854775808 ≤ a ∧ a < 9223372036854775808) (hb : -9223372036854775808 ≤ b ∧ b < 9223372036854775808) (k1 : b < a → RQ K d own ini rt cd (pc + 1) L (.int (iI 1) :: st) g Q) (k2 : a = b → RQ K d own ini rt cd (pc + 1) L (.int (iI 0) :: st) g Q) (k3 : a < b → RQ K d own ini rt cd (pc + 1) L (.int (iI (-1)) :: st) g Q) : RQ K d own ini rt cd pc L (.long y :: .long x :: st) g Q := by
  subst hx hy
  have e := lg_cmp_z ha hb
  refine RQ.step hf (S := (pc + 1, L, .int (lg_cmp (lL a) (lL b)) :: st, g)) rfl ?_
  rw [e]
  show RQ K d own ini rt cd (pc + 1) L (.int (iI (if b < a then 1 else if a = b then 0 else -1)) :: st) g Q
  by_cases h1 : b < a
  · rw [if_pos h1]; exact k1 h1
  · rw [if_neg h1]
    by_cases h2 : a = b
    · rw [if_pos h2]; exact k2 h2
    · rw [if_neg h2]; exact k3 (by omega)
theorem RQ.tsw {dd lo hi : Int} {offs : Array Int} {len t : Nat} {x : Int32} {z o : Int} (hf : pfetch cd pc = some (.tableswitch dd lo hi offs, len)) (hx : x = iI z) (rz : -2147483648 ≤ z ∧ z < 2147483648) (ho : (if z < lo ∨ hi < z then some dd else offs[(z - lo).toNat]?) = some o) (ht : ptgt pc o = some t) (k : RQ K d own ini rt cd t L st g Q) : RQ K d own ini rt cd pc L (.int x :: st) g Q := by
  subst hx
  refine RQ.step hf (S := (t, L, st, g)) ?_ k
  show ptsw dd lo hi offs pc L g (.int (iI z) :: st) = _
  simp only [ptsw, iI_toInt rz, ho, Option.bind, ht, Option.map]
end RQRules
theorem CQ.of {K : PK} {d k own n : Nat} {ini : Bool} {rt : Option FieldType} {cd : PC} {as : List Value} {g : PG} {Q : Option Value → PG → Prop} {nm : MethodName} {ix : Nat} (hk : k < mthL.length) (hm : mrec k = (nm, ix, n, rt, own)) (hi : minit k = ini) (hc : codeT.getD k [] = cd) (hl : (pargs as).length ≤ n) (h : RQ K d own ini rt cd 0 (pinit n as) [] g Q) : CQ K (d + 1) k as g Q := by
  obtain ⟨r, g', h1, h2⟩ := h
  exact ⟨r, g', CallR.of hk hm hi hc hl h1, h2⟩
theorem CQ.x {K : PK} {d k : Nat} {as : List Value} {g g' : PG} {r : Option Value} (h : CQ K d k as g (fun r' g'' => r' = r ∧ g'' = g')) : CallR K d k as g r g' := by
  obtain ⟨_, _, h, rfl, rfl⟩ := h
  exact h
theorem CQ.up {K : PK} {d d' k : Nat} {as : List Value} {g : PG} {Q : Option Value → PG → Prop} (h : CQ K d k as g Q) (hd : d ≤ d') : CQ K d' k as g Q := by
  obtain ⟨r, g', h1, h2⟩ := h
  exact ⟨r, g', h1.up hd, h2⟩
