/-! walking the pure machine -/
def psteps (own : Nat) (ini : Bool) (K : PK) (cd : PC) : Nat → Nat → PL → List Value → PG → Option PS
  | 0, pc, L, st, g => some (pc, L, st, g)
  | n + 1, pc, L, st, g => match pfetch cd pc with
    | none => none
    | some (ins, _) => match pstep own ini K ins pc L st g with
      | none => none
      | some (pc', L', st', g') => psteps own ini K cd n pc' L' st' g'
def Runs (K : PK) (d own : Nat) (ini : Bool) (rt : Option FieldType) (cd : PC) (pc : Nat) (L : PL) (st : List Value) (g : PG) (r : Option Value) (g' : PG) : Prop := ∃ n, RunN (CallR K d) own ini rt K cd n pc L st g r g'
section RunsRules
variable {K : PK} {d own : Nat} {ini : Bool} {rt : Option FieldType} {cd : PC} {pc : Nat} {L : PL} {st : List Value} {g g' : PG} {r : Option Value}
theorem Runs.step {ins : Instr} {len : Nat} {S : PS} (hf : pfetch cd pc = some (ins, len)) (h : pstep own ini K ins pc L st g = some S) (k : Runs K d own ini rt cd S.1 S.2.1 S.2.2.1 S.2.2.2 r g') : Runs K d own ini rt cd pc L st g r g' := by
  obtain ⟨n, k⟩ := k
  exact ⟨n + 1, ins, len, hf, Or.inr (Or.inl ⟨S, h, k⟩)⟩
/-- n steps with nothing to decide -/
theorem Runs.seg : ∀ (n : Nat) {pc : Nat} {L : PL} {st : List Value} {g : PG} {pc' : Nat} {L' : PL} {st' : List Value} {g1 : PG}, psteps own ini K cd n pc L st g = some (pc', L', st', g1) → Runs K d own ini rt cd pc' L' st' g1 r g' → Runs K d own ini rt cd pc L st g r g'
  | 0, _, _, _, _, _, _, _, _, h, k => by cases h; exact k
  | n + 1, pc, L, st, g, _, _, _, _, h, k => by
    unfold psteps at h
    cases hf : pfetch cd pc with
    | none => rw [hf] at h; cases h
    | some il =>
      obtain ⟨ins, len⟩ := il
      rw [hf] at h
      dsimp only at h
      cases hs : pstep own ini K ins pc L st g with
      | none => rw [hs] at h; cases h
      | some S1 =>
        obtain ⟨a1, a2, a3, a4⟩ := S1
        rw [hs] at h
        exact Runs.step hf hs (Runs.seg n h k)
theorem Runs.ret {ins : Instr} {len : Nat} (hf : pfetch cd pc = some (ins, len)) (h : pret rt ins st = some r) : Runs K d own ini rt cd pc L st g r g := ⟨1, ins, len, hf, Or.inl ⟨h, rfl⟩⟩
theorem Runs.call {ins : Instr} {len k : Nat} {as rest : List Value} {rv : Option Value} {g1 : PG} (hf : pfetch cd pc = some (ins, len)) (hp : pcall own ins st g = some (k, as, rest)) (ho : CallR K d k as g rv g1) (k : Runs K d own ini rt cd (pc + 3) L (rv.toList ++ rest) g1 r g') : Runs K d own ini rt cd pc L st g r g' := by
  obtain ⟨n, k⟩ := k
  exact ⟨n + 1, ins, len, hf, Or.inr (Or.inr ⟨_, as, rest, rv, g1, hp, ho, k⟩)⟩
theorem Runs.if2 {c : ClassFile.Cond} {off : Int} {len t : Nat} {x y : Int32} (hf : pfetch cd pc = some (.if_icmp c off, len)) (ht : ptgt pc off = some t) (k1 : icmp c x y = true → Runs K d own ini rt cd t L st g r g') (k2 : icmp c x y = false → Runs K d own ini rt cd (pc + 3) L st g r g') : Runs K d own ini rt cd pc L (.int y :: .int x :: st) g r g' := by
  cases h : icmp c x y with
  | true => exact Runs.step hf (S := (t, L, st, g)) (by show (ptgt pc off).map _ = _; rw [ht, h]; rfl) (k1 h)
  | false => exact Runs.step hf (S := (pc + 3, L, st, g)) (by show (ptgt pc off).map _ = _; rw [ht, h]; rfl) (k2 h)
theorem Runs.if1 {c : ClassFile.Cond} {off : Int} {len t : Nat} {x : Int32} (hf : pfetch cd pc = some (.ifCond c off, len)) (ht : ptgt pc off = some t) (k1 : icmp c x 0 = true → Runs K d own ini rt cd t L st g r g') (k2 : icmp c x 0 = false → Runs K d own ini rt cd (pc + 3) L st g r g') : Runs K d own ini rt cd pc L (.int x :: st) g r g' := by
  cases h : icmp c x 0 with
  | true => exact Runs.step hf (S := (t, L, st, g)) (by show (ptgt pc off).map _ = _; rw [ht, h]; rfl) (k1 h)
  | false => exact Runs.step hf (S := (pc + 3, L, st, g)) (by show (ptgt pc off).map _ = _; rw [ht, h]; rfl) (k2 h)
theorem Runs.if2t {c : ClassFile.Cond} {off : Int} {len t : Nat} {x y : Int32} (hf : pfetch cd pc = some (.if_icmp c off, len)) (ht : ptgt pc off = some t) (h : icmp c x y = true) (k1 : Runs K d own ini rt cd t L st g r g') : Runs K d own ini rt cd pc L (.int y :: .int x :: st) g r g' := Runs.if2 hf ht (fun _ => k1) (fun q => by rw [h] at q; cases q)
theorem Runs.if2f {c : ClassFile.Cond} {off : Int} {len t : Nat} {x y : Int32} (hf : pfetch cd pc = some (.if_icmp c off, len)) (ht : ptgt pc off = some t) (h : icmp c x y = false) (k1 : Runs K d own ini rt cd (pc + 3) L st g r g') : Runs K d own ini rt cd pc L (.int y :: .int x :: st) g r g' := Runs.if2 hf ht (fun q => by rw [h] at q; cases q) (fun _ => k1)
theorem Runs.if1t {c : ClassFile.Cond} {off : Int} {len t : Nat} {x : Int32} (hf : pfetch cd pc = some (.ifCond c off, len)) (ht : ptgt pc off = some t) (h : icmp c x 0 = true) (k1 : Runs K d own ini rt cd t L st g r g') : Runs K d own ini rt cd pc L (.int x :: st) g r g' := Runs.if1 hf ht (fun _ => k1) (fun q => by rw [h] at q; cases q)
theorem Runs.if1f {c : ClassFile.Cond} {off : Int} {len t : Nat} {x : Int32} (hf : pfetch cd pc = some (.ifCond c off, len)) (ht : ptgt pc off = some t) (h : icmp c x 0 = false) (k1 : Runs K d own ini rt cd (pc + 3) L st g r g') : Runs K d own ini rt cd pc L (.int x :: st) g r g' := Runs.if1 hf ht (fun q => by rw [h] at q; cases q) (fun _ => k1)
theorem pin_nI {i n : Nat} (h : i < n) (hn : n < 2 ^ 31) : pin (nI i) n = true := by
  unfold pin
  exact decide_eq_true (vp_in_nI h hn)
/-- an element of an int array -/
theorem Runs.iald {len a i n : Nat} {f : Nat → Int32} {z : Int32} (hf : pfetch cd pc = some (.iaload, len)) (hz : z = nI i) (ha : g.1[a]? = some (.inl (0, n, .inl f))) (hi : i < n) (hn : n < 2 ^ 31) (k : Runs K d own ini rt cd (pc + 1) L (.int (f i) :: st) g r g') : Runs K d own ini rt cd pc L (.int z :: .ref a :: st) g r g' := by
  subst hz
  refine Runs.step hf (S := (pc + 1, L, .int (f i) :: st, g)) ?_ k
  show piald K (pc + 1) L g (.int (nI i) :: .ref a :: st) = _
  simp only [piald, ha, pin_nI hi hn, nI_clamp (Nat.lt_trans hi hn), cond_true]
theorem Runs.bald {len a i n : Nat} {f : Nat → Int32} {z : Int32} (hf : pfetch cd pc = some (.baload, len)) (hz : z = nI i) (ha : g.1[a]? = some (.inl (1, n, .inl f))) (hi : i < n) (hn : n < 2 ^ 31) (k : Runs K d own ini rt cd (pc + 1) L (.int (f i) :: st) g r g') : Runs K d own ini rt cd pc L (.int z :: .ref a :: st) g r g' := by
  subst hz
  refine Runs.step hf (S := (pc + 1, L, .int (f i) :: st, g)) ?_ k
  show pbald (pc + 1) L g (.int (nI i) :: .ref a :: st) = _
  simp only [pbald, ha, pin_nI hi hn, nI_clamp (Nat.lt_trans hi hn), cond_true]
theorem Runs.iast {len a i n : Nat} {f : Nat → Int32} {x : Int32} {z : Int32} (hf : pfetch cd pc = some (.iastore, len)) (hz : z = nI i) (ha : g.1[a]? = some (.inl (0, n, .inl f))) (hi : i < n) (hn : n < 2 ^ 31) (k : Runs K d own ini rt cd (pc + 1) L st (g.1.set a (.inl (0, n, .inl (upd f i x))), g.2) r g') : Runs K d own ini rt cd pc L (.int x :: .int z :: .ref a :: st) g r g' := by
  subst hz
  refine Runs.step hf (S := (pc + 1, L, st, (g.1.set a (.inl (0, n, .inl (upd f i x))), g.2))) ?_ k
  show piast (pc + 1) L g (.int x :: .int (nI i) :: .ref a :: st) = _
  simp only [piast, ha, pin_nI hi hn, nI_clamp (Nat.lt_trans hi hn), cond_true]
theorem Runs.bast {len a i n : Nat} {f : Nat → Int32} {x : Int32} {z : Int32} (hf : pfetch cd pc = some (.bastore, len)) (hz : z = nI i) (ha : g.1[a]? = some (.inl (1, n, .inl f))) (hi : i < n) (hn : n < 2 ^ 31) (k : Runs K d own ini rt cd (pc + 1) L st (g.1.set a (.inl (1, n, .inl (upd f i x.toInt8.toInt32))), g.2) r g') : Runs K d own ini rt cd pc L (.int x :: .int z :: .ref a :: st) g r g' := by
  subst hz
  refine Runs.step hf (S := (pc + 1, L, st, (g.1.set a (.inl (1, n, .inl (upd f i x.toInt8.toInt32))), g.2))) ?_ k
  show pbast (pc + 1) L g (.int x :: .int (nI i) :: .ref a :: st) = _
  simp only [pbast, ha, pin_nI hi hn, nI_clamp (Nat.lt_trans hi hn), vp_nar_byte, cond_true]
end RunsRules
theorem CallR.of {K : PK} {d k own n : Nat} {ini : Bool} {rt : Option FieldType} {cd : PC} {as : List Value} {g g' : PG} {r : Option Value} {nm : MethodName} {ix : Nat} (hk : k < mthL.length) (hm : mrec k = (nm, ix, n, rt, own)) (hi : minit k = ini) (hc : codeT.getD k [] = cd) (hl : (pargs as).length ≤ n) (h : Runs K d own ini rt cd 0 (pinit n as) [] g r g') : CallR K (d + 1) k as g r g' := by
  refine Or.inr ⟨hk, ?_, ?_⟩
  · rw [hm]; exact hl
  · rw [hm, hi, hc]; exact h
theorem RunN.mono {O O' : Nat → List Value → PG → Option Value → PG → Prop} {own : Nat} {ini : Bool} {rt : Option FieldType} {K : PK} {cd : PC} {r : Option Value} {g' : PG} (hO : ∀ k as g rv g1, O k as g rv g1 → O' k as g rv g1) : ∀ (n pc : Nat) (L : PL) (st : List Value) (g : PG), RunN O own ini rt K cd n pc L st g r g' → RunN O' own ini rt K cd n pc L st g r g'
  | 0, _, _, _, _, h => h
  | n + 1, pc, L, st, g, h => by
    obtain ⟨ins, len, hf, h⟩ := h
    refine ⟨ins, len, hf, ?_⟩
    rcases h with h | ⟨S, h1, h2⟩ | ⟨k, as, rest, rv, g1, h0, h1, h2⟩
    · exact Or.inl h
    · exact Or.inr (Or.inl ⟨S, h1, RunN.mono hO n _ _ _ _ h2⟩)
    · exact Or.inr (Or.inr ⟨k, as, rest, rv, g1, h0, hO _ _ _ _ _ h1, RunN.mono hO n _ _ _ _ h2⟩)
theorem CallR.succ {K : PK} : ∀ (d k : Nat) (as : List Value) (g : PG) (r : Option Value) (g' : PG), CallR K d k as g r g' → CallR K (d + 1) k as g r g'
  | 0, _, _, _, _, _, h => h.elim
  | d + 1, k, as, g, r, g', h => by
    rcases h with ⟨h0, h | h⟩ | h
    · exact Or.inl ⟨h0, Or.inl ⟨h.1, by omega, h.2.2⟩⟩
    · exact Or.inl ⟨h0, Or.inr ⟨h.1, by omega, h.2.2⟩⟩
    obtain ⟨h1, h2, n, h3⟩ := h
    exact Or.inr ⟨h1, h2, n, RunN.mono (fun k as g rv g1 h => CallR.succ d k as g rv g1 h) n _ _ _ _ h3⟩
theorem CallR.up {K : PK} {d d' k : Nat} {as : List Value} {g g' : PG} {r : Option Value} (h : CallR K d k as g r g') (hd : d ≤ d') : CallR K d' k as g r g' := by
  obtain ⟨j, rfl⟩ := Nat.exists_eq_add_of_le hd
  induction j with
  | zero => exact h
  | succ j ih => exact CallR.succ _ _ _ _ _ _ (ih (Nat.le_add_right _ _))
