/-! what a rule is worth, told over its steps -/
def cnd : List Int → Nat
  | [] => 0
  | s :: c => if s = -12 then 0 else cnd c + 1
/-- worth of steps; true: the clause is passed over -/
def wo (L : Int → Int) : List Int → Bool → List Int → Int
  | [], _, _ => 0
  | s :: c, true, st => if s = -12 then wo L c false st else wo L c true st
  | s :: c, false, st => if s = -12 then st.headD 0 else if s = -11 then wo L c (decide (st.headD 0 = 0)) st.tail else wo L c false (ev1 L s st)
theorem wo_tr {L : Int → Int} : ∀ (c st : List Int), wo L c true st = wo L (c.drop (cnd c + 1)) false st
  | [], st => rfl
  | s :: c, st => by
    show (if s = -12 then wo L c false st else wo L c true st) = wo L ((s :: c).drop (cnd (s :: c) + 1)) false st
    by_cases h : s = -12
    · rw [if_pos h, show cnd (s :: c) = 0 from if_pos h]; rfl
    · rw [if_neg h, show cnd (s :: c) = cnd c + 1 from if_neg h, wo_tr c st]; rfl
theorem ty1_no {s : Int} {ts t : List Bool} (h : ty1 s ts = some t) : s ≠ -11 ∧ s ≠ -12 := by
  refine ⟨?_, ?_⟩ <;> (rintro rfl; unfold ty1 at h; repeat' (split at h)) <;> first | omega | cases h
theorem tyr_c {s : Int} {A : List Int} {ts t : List Bool} (h : tyr (s :: A) ts = some t) : ∃ t1, ty1 s ts = some t1 ∧ tyr A t1 = some t := by
  have h' : (ty1 s ts).bind (tyr A) = some t := h
  cases h1 : ty1 s ts with
  | none => rw [h1] at h'; cases h'
  | some t1 => rw [h1] at h'; exact ⟨t1, rfl, h'⟩
theorem wo_ev {L : Int → Int} : ∀ (A c st : List Int) (ts t : List Bool), tyr A ts = some t → wo L (A ++ c) false st = wo L c false (ev L A st)
  | [], c, st, ts, t, h => rfl
  | s :: A, c, st, ts, t, h => by
    obtain ⟨t1, h1, h2⟩ := tyr_c h
    have hn := ty1_no h1
    show (if s = -12 then st.headD 0 else if s = -11 then wo L (A ++ c) (decide (st.headD 0 = 0)) st.tail else wo L (A ++ c) false (ev1 L s st)) = wo L c false (ev L A (ev1 L s st))
    rw [if_neg hn.2, if_neg hn.1]
    exact wo_ev A c _ t1 t h2
theorem wo_sk {L : Int → Int} : ∀ (A c st : List Int) (ts t : List Bool), tyr A ts = some t → wo L (A ++ (-12 :: c)) true st = wo L c false st
  | [], c, st, ts, t, h => rfl
  | s :: A, c, st, ts, t, h => by
    obtain ⟨t1, h1, h2⟩ := tyr_c h
    show (if s = -12 then wo L (A ++ (-12 :: c)) false st else wo L (A ++ (-12 :: c)) true st) = _
    rw [if_neg (ty1_no h1).2]
    exact wo_sk A c st t1 t h2
theorem wo_c1 {L : Int → Int} {A c : List Int} {v : Int} (hA : tyr A [] = some [false]) (hv : ev L A [] = [v]) : wo L ((A ++ [-12]) ++ c) false [] = v := by
  rw [List.append_assoc, wo_ev A _ [] [] _ hA, hv]
  rfl
theorem wo_c2 {L : Int → Int} {A B c : List Int} {t v : Int} (hA : tyr A [] = some [true]) (hB : tyr B [] = some [false]) (ht : ev L A [] = [t]) (hv : ev L B [] = [v]) : wo L ((A ++ (-11 :: (B ++ [-12]))) ++ c) false [] = if t = 0 then wo L c false [] else v := by
  rw [List.append_assoc, wo_ev A _ [] [] _ hA, ht]
  show wo L ((B ++ [-12]) ++ c) (decide (t = 0)) [] = _
  rw [List.append_assoc]
  by_cases h : t = 0
  · rw [if_pos h, decide_eq_true h]
    exact wo_sk B c [] [] _ hB
  · rw [if_neg h, decide_eq_false h, wo_ev B _ [] [] _ hB, hv]
    rfl
/-- steps that go through clause by clause -/
def wty : List Int → List Bool → Prop
  | [], _ => True
  | s :: c, ts => if s = -12 then (ts = [false] ∧ wty c []) else if s = -11 then (ts = [true] ∧ wty c []) else ∃ t, ty1 s ts = some t ∧ wty c t
theorem wty_app : ∀ (A c : List Int) (ts t : List Bool), tyr A ts = some t → wty c t → wty (A ++ c) ts
  | [], c, ts, t, h, hc => by cases h; exact hc
  | s :: A, c, ts, t, h, hc => by
    obtain ⟨t1, h1, h2⟩ := tyr_c h
    have hn := ty1_no h1
    show (if s = -12 then (ts = [false] ∧ wty (A ++ c) []) else if s = -11 then (ts = [true] ∧ wty (A ++ c) []) else ∃ t, ty1 s ts = some t ∧ wty (A ++ c) t)
    rw [if_neg hn.2, if_neg hn.1]
    exact ⟨t1, h1, wty_app A c t1 t h2 hc⟩
theorem wty_drop : ∀ (c : List Int) (ts : List Bool), wty c ts → wty (c.drop (cnd c + 1)) []
  | [], ts, h => trivial
  | s :: c, ts, h => by
    have h' : (if s = -12 then (ts = [false] ∧ wty c []) else if s = -11 then (ts = [true] ∧ wty c []) else ∃ t, ty1 s ts = some t ∧ wty c t) := h
    by_cases e : s = -12
    · rw [if_pos e] at h'
      rw [show cnd (s :: c) = 0 from if_pos e]
      exact h'.2
    · rw [if_neg e] at h'
      rw [show cnd (s :: c) = cnd c + 1 from if_neg e]
      show wty (c.drop (cnd c + 1)) []
      by_cases e2 : s = -11
      · rw [if_pos e2] at h'
        exact wty_drop c _ h'.2
      · rw [if_neg e2] at h'
        obtain ⟨t, -, h2⟩ := h'
        exact wty_drop c t h2
def Cl (C : List Int) : Prop := (∃ A, tyr A [] = some [false] ∧ C = A ++ [-12]) ∨ ∃ A B, tyr A [] = some [true] ∧ tyr B [] = some [false] ∧ C = A ++ (-11 :: (B ++ [-12]))
theorem wty_cl {C c : List Int} (h : Cl C) (hc : wty c []) : wty (C ++ c) [] := by
  rcases h with ⟨A, h1, rfl⟩ | ⟨A, B, h1, h2, rfl⟩
  · rw [List.append_assoc]
    refine wty_app A _ [] _ h1 ?_
    show (if (-12 : Int) = -12 then _ else _)
    rw [if_pos rfl]
    exact ⟨rfl, hc⟩
  · rw [List.append_assoc]
    refine wty_app A _ [] _ h1 ?_
    show (if (-11 : Int) = -12 then _ else if (-11 : Int) = -11 then ([true] = [true] ∧ wty ((B ++ [-12]) ++ c) []) else _)
    rw [if_neg (by decide), if_pos rfl]
    refine ⟨rfl, ?_⟩
    rw [List.append_assoc]
    refine wty_app B _ [] _ h2 ?_
    show (if (-12 : Int) = -12 then _ else _)
    rw [if_pos rfl]
    exact ⟨rfl, hc⟩
/-- what a good clause is made of -/
theorem rThen_c {tp : List Int} {f : RF} {nt : Nat} {a : Int} (z : (rThen tp f nt a).1 = -1) : (f nt 0 a).1 = -1 ∧ (rsq (f nt 0 a) (rex tp 63)).1 = -1 ∧ (f 2 0 (rsq (f nt 0 a) (rex tp 63)).2.1).1 = -1 ∧ (rThen tp f nt a).2.2 = (f nt 0 a).2.2 ++ (-11 :: (f 2 0 (rsq (f nt 0 a) (rex tp 63)).2.1).2.2) := by
  unfold rThen at z ⊢
  obtain ⟨z1, z2, z3⟩ := rsq_i z
  have z1' : (rsq (f nt 0 a) (rex tp 63)).1 = -1 := z1
  obtain ⟨y1, y2, y3⟩ := rsq_i z1'
  refine ⟨y1, z1', z2, ?_⟩
  rw [z3]
  show ((rsq (f nt 0 a) (rex tp 63)).2.2 ++ [-11]) ++ (f 2 0 (rsq (f nt 0 a) (rex tp 63)).2.1).2.2 = _
  rw [y3, rex_c, List.append_nil, List.append_assoc]
  rfl
theorem rThen_t {tp : List Int} {f : RF} (hf : RfOK tp f) (ht : TyOK tp f) {nt : Nat} {a : Int} (l1 : nt ≤ 12) (hth : thb nt ≤ 6) (ha : 0 ≤ a ∧ a ≤ (tp.length : Int)) (z : (rThen tp f nt a).1 = -1) : tyr (f nt 0 a).2.2 (tin nt) = some [tou nt] ∧ tyr (f 2 0 (rsq (f nt 0 a) (rex tp 63)).2.1).2.2 [] = some [false] := by
  obtain ⟨z1, z2, z3, z4⟩ := rThen_c z
  have hn := njs_r nt
  have hg : Rg tp a (njs nt + 1) (0 + 1) (rsq (f nt 0 a) (rex tp 63)) := Rg.sq (hf.at nt 0 ha) (fun b b0 b1 => Rg.ex (by omega) (by omega))
  have h2 := hg.2 z2
  have h1 := ht nt 0 a l1 ha.1 ha.2 (by omega) (by omega) z1 [] (by show ((0 : Nat) : Int) + thb nt + 2 * (6 - 0) ≤ 64; omega)
  rw [List.append_nil] at h1
  exact ⟨h1, ht 2 0 _ (by omega) (by omega) h2.2.1 (by omega) (by omega) z3 [] (by show ((0 : Nat) : Int) + 3 + 2 * (6 - 0) ≤ 64; omega)⟩
theorem rBody_cl {tp : List Int} {f : RF} (hf : RfOK tp f) (ht : TyOK tp f) {a : Int} (ha : 0 ≤ a ∧ a ≤ (tp.length : Int)) (z : (rBody tp f a).1 = -1) : Cl ((rBody tp f a).2.2 ++ [-12]) := by
  unfold rBody at z ⊢
  by_cases c1 : lk tp a = 33 ∨ lk tp a = 40
  · rw [if_pos c1] at z ⊢
    obtain ⟨h1, h2⟩ := rThen_t hf ht (nt := 5) (by omega) (by decide) ha z
    obtain ⟨-, -, -, e⟩ := rThen_c z
    refine Or.inr ⟨_, _, h1, h2, ?_⟩
    rw [e, List.append_assoc]; rfl
  · rw [if_neg c1] at z ⊢
    obtain ⟨z1, z2, z3⟩ := rsq_i z
    have h1 := ht 2 0 a (by omega) ha.1 ha.2 (by omega) (by omega) z1 [] (by show ((0 : Nat) : Int) + 3 + 2 * (6 - 0) ≤ 64; omega)
    have hg := (hf.at 2 0 ha).2 z1
    rw [z3]
    by_cases c2 : pcm (lk tp (f 2 0 a).2.1) = -1
    · rw [if_pos c2] at z2 ⊢
      rw [List.append_nil]
      exact Or.inl ⟨_, h1, rfl⟩
    · rw [if_neg c2] at z2 ⊢
      have hg1 : a + 1 ≤ (f 2 0 a).2.1 := hg.1
      obtain ⟨k1, k2⟩ := rThen_t hf ht (nt := 12) (by omega) (by decide) (a := (f 2 0 a).2.1) (by omega) z2
      obtain ⟨-, -, -, e⟩ := rThen_c z2
      refine Or.inr ⟨(f 2 0 a).2.2 ++ (f 12 0 (f 2 0 a).2.1).2.2, _, tyr_2 h1 k1, k2, ?_⟩
      rw [e, List.append_assoc, List.append_assoc, List.append_assoc]; rfl
theorem rClause_c {tp : List Int} {f : RF} {a : Int} (z : (rClause tp f a).1 = -1) : (rsq (rex tp 121 a) (rex tp 58)).1 = -1 ∧ (rBody tp f (rsq (rex tp 121 a) (rex tp 58)).2.1).1 = -1 ∧ (rClause tp f a).2.2 = (rBody tp f (rsq (rex tp 121 a) (rex tp 58)).2.1).2.2 ++ [-12] := by
  unfold rClause at z ⊢
  have z' : (rsq (rsq (rex tp 121 a) (rex tp 58)) (rBody tp f)).1 = -1 := z
  obtain ⟨z1, z2, z3⟩ := rsq_i z'
  obtain ⟨y1, y2, y3⟩ := rsq_i z1
  refine ⟨z1, z2, ?_⟩
  show (rsq (rsq (rex tp 121 a) (rex tp 58)) (rBody tp f)).2.2 ++ [-12] = _
  rw [z3, y3, rex_c, rex_c]
  rfl
theorem rd_cl {tp : List Int} {m : Nat} {a : Int} (ha : 0 ≤ a ∧ a ≤ (tp.length : Int)) (z : (rd tp m 13 0 a).1 = -1) : Cl (rd tp m 13 0 a).2.2 := by
  cases m with
  | zero =>
    have hs := sk_r (tp := tp) ha.2
    exact absurd (show sk tp a = -1 from z) (by omega)
  | succ m =>
    have z' : (rClause tp (rd tp m) a).1 = -1 := z
    obtain ⟨z1, z2, z3⟩ := rClause_c z'
    have h1 : Rg tp a (1 + 1) (1 + 1) (rsq (rex tp 121 a) (rex tp 58)) := Rg.sq (Rg.ex ha (by omega)) (fun b b0 b1 => Rg.ex (by omega) (by omega))
    have h2 := h1.2 z1
    show Cl (rClause tp (rd tp m) a).2.2
    rw [z3]
    exact rBody_cl (rd_ok m) (rd_ty m) (by omega) z2
theorem rd_wty {tp : List Int} : ∀ (m : Nat) (a : Int), 0 ≤ a → a ≤ (tp.length : Int) → (rd tp m 14 0 a).1 = -1 → wty (rd tp m 14 0 a).2.2 []
  | 0, a, ha0, ha1, z => by
    have hs := sk_r (tp := tp) ha1
    exact absurd (show sk tp a = -1 from z) (by omega)
  | m + 1, a, ha0, ha1, z => by
    have z' : (rsq (rd tp m 13 0 a) (fun b => if lk tp b = 0 then (-1, sk tp b, []) else rsq (rex tp 59 b) (rd tp m 14 0))).1 = -1 := z
    show wty (rsq (rd tp m 13 0 a) (fun b => if lk tp b = 0 then (-1, sk tp b, []) else rsq (rex tp 59 b) (rd tp m 14 0))).2.2 []
    obtain ⟨z1, z2, z3⟩ := rsq_i z'
    have hg : a + 1 ≤ (rd tp m 13 0 a).2.1 ∧ _ := ((rd_ok (tp := tp) m).at 13 0 (a := a) ⟨ha0, ha1⟩).2 z1
    rw [z3]
    refine wty_cl (rd_cl ⟨ha0, ha1⟩ z1) ?_
    (try dsimp only at z2 ⊢)
    by_cases c : lk tp (rd tp m 13 0 a).2.1 = 0
    · rw [if_pos c]
      trivial
    · rw [if_neg c] at z2 ⊢
      obtain ⟨y1, y2, y3⟩ := rsq_i z2
      have hx := (Rg.ex (tp := tp) (a := (rd tp m 13 0 a).2.1) (c := 59) (by omega) (by omega)).2 y1
      rw [y3, rex_c]
      exact rd_wty m _ (by omega) hx.2.1 y2
/-- steps are small -/
def BdR (r : RS) : Prop := ∀ s ∈ r.2.2, -18 ≤ s ∧ s ≤ 9999
theorem BdR.sq {r : RS} {k : Int → RS} (h : BdR r) (hk : ∀ b, BdR (k b)) : BdR (rsq r k) := by
  unfold rsq
  split
  · exact h
  · intro s hs
    rcases List.mem_append.mp hs with h1 | h1
    · exact h s h1
    · exact hk _ s h1
theorem BdR.ap {r : RS} {x : Int} (h : BdR r) (hx : -18 ≤ x ∧ x ≤ 9999) : BdR (rap r x) := by
  intro s hs
  rcases List.mem_append.mp hs with h1 | h1
  · exact h s h1
  · rw [List.mem_singleton.mp h1]; exact hx
theorem BdR.nil {x y : Int} : BdR (x, y, []) := fun s hs => absurd hs List.not_mem_nil
theorem BdR.ex {tp : List Int} {c a : Int} : BdR (rex tp c a) := by
  intro s hs
  rw [rex_c] at hs
  exact absurd hs List.not_mem_nil
theorem BdR.one {x y v : Int} (h : -18 ≤ v ∧ v ≤ 9999) : BdR (x, y, [v]) := fun s hs => by rw [List.mem_singleton.mp hs]; exact h
theorem nmn_v {tp : List Int} : ∀ (k : Nat) (p v : Int), 0 ≤ v → 0 ≤ (nmn tp k p v).1 ∧ (nmn tp k p v).1 < (v + 1) * 10 ^ k
  | 0, p, v, h0 => ⟨h0, by show v < (v + 1) * 10 ^ 0; omega⟩
  | k + 1, p, v, h0 => by
    rw [nmn]
    have h10 : (0 : Int) < 10 ^ k := Int.pow_pos (by decide)
    have e10 : (10 : Int) ^ (k + 1) = 10 * 10 ^ k := by rw [Int.pow_succ, Int.mul_comm]
    split
    · rename_i hd
      have ih := nmn_v (tp := tp) k (p + 1) (v * 10 + (tch tp p - 48)) (by omega)
      refine ⟨ih.1, Int.lt_of_lt_of_le ih.2 ?_⟩
      rw [e10, ← Int.mul_assoc]
      exact Int.mul_le_mul_of_nonneg_right (by omega) (by omega)
    · refine ⟨h0, ?_⟩
      rw [e10, ← Int.mul_assoc]
      show v < (v + 1) * 10 * 10 ^ k
      have h1 : (v + 1) * 10 * 1 ≤ (v + 1) * 10 * 10 ^ k := Int.mul_le_mul_of_nonneg_left (by omega) (by omega)
      omega
theorem nmR_v {tp : List Int} {a : Int} : 0 ≤ (nmR tp 4 a).2.1 ∧ (nmR tp 4 a).2.1 ≤ 9999 := by
  unfold nmR
  split
  · have h := nmn_v (tp := tp) 4 (sk tp a) 0 (by omega)
    show 0 ≤ (nmn tp 4 (sk tp a) 0).1 ∧ (nmn tp 4 (sk tp a) 0).1 ≤ 9999
    have h2 : (nmn tp 4 (sk tp a) 0).1 < (0 + 1) * 10 ^ 4 := h.2
    omega
  · show (0 : Int) ≤ 0 ∧ (0 : Int) ≤ 9999; omega
theorem rdS_bd {tp : List Int} {f : RF} (hf : ∀ nt dp a, BdR (f nt dp a)) (nt : Nat) (dp a : Int) : BdR (rdS tp f nt dp a) := by
  have hth : ∀ nt b, BdR (rThen tp f nt b) := fun nt b => BdR.sq (BdR.ap (BdR.sq (hf nt 0 b) (fun _ => BdR.ex)) (by omega)) (fun _ => hf _ _ _)
  unfold rdS
  split
  · show BdR (rAtom tp f dp a)
    have hp := pr_r (lk tp a)
    have hn := nmR_v (tp := tp) (a := a)
    unfold rAtom
    repeat' split
    · exact BdR.one (by omega)
    · exact BdR.sq (hf _ _ _) (fun _ => BdR.ex)
    · exact BdR.nil
    · exact BdR.one (by omega)
  · exact BdR.sq (hf _ _ _) (fun _ => hf _ _ _)
  · exact BdR.sq (hf _ _ _) (fun _ => hf _ _ _)
  · show BdR (rUnit tp f dp a)
    unfold rUnit
    repeat' split
    · exact BdR.ap (hf _ _ _) (by omega)
    · exact BdR.nil
    · exact BdR.sq (hf _ _ _) (fun _ => BdR.ex)
    · exact BdR.nil
    · exact BdR.sq (hf _ _ _) (fun _ => hf _ _ _)
  · exact BdR.sq (hf _ _ _) (fun _ => hf _ _ _)
  · exact BdR.sq (hf _ _ _) (fun _ => hf _ _ _)
  · show BdR (rTl tp f dp a)
    unfold rTl
    split
    · exact BdR.sq (BdR.ap (hf _ _ _) (by split <;> omega)) (fun _ => hf _ _ _)
    · exact BdR.nil
  · show BdR (rSl tp f dp a)
    unfold rSl
    split
    · exact BdR.sq (BdR.ap (hf _ _ _) (by split <;> omega)) (fun _ => hf _ _ _)
    · exact BdR.nil
  · show BdR (rCmp tp f dp a)
    have hp := pcm_r (lk tp a)
    unfold rCmp
    split
    · exact BdR.nil
    · exact BdR.ap (hf _ _ _) (by omega)
  · show BdR (rAl tp f dp a)
    unfold rAl
    split
    · exact BdR.sq (BdR.ap (hf _ _ _) (by omega)) (fun _ => hf _ _ _)
    · exact BdR.nil
  · exact BdR.sq (hf _ _ _) (fun _ => hf _ _ _)
  · show BdR (rOl tp f dp a)
    unfold rOl
    split
    · exact BdR.sq (BdR.ap (hf _ _ _) (by omega)) (fun _ => hf _ _ _)
    · exact BdR.nil
  · exact BdR.sq (hf _ _ _) (fun _ => hf _ _ _)
  · show BdR (rClause tp f a)
    unfold rClause
    refine BdR.ap (BdR.sq (BdR.sq BdR.ex (fun _ => BdR.ex)) (fun b => ?_)) (by omega)
    unfold rBody
    split
    · exact hth _ _
    · refine BdR.sq (hf _ _ _) (fun e => ?_)
      (try dsimp only)
      split
      · exact BdR.nil
      · exact hth _ _
  · show BdR (rText tp f a)
    unfold rText
    refine BdR.sq (hf _ _ _) (fun e => ?_)
    (try dsimp only)
    split
    · exact BdR.nil
    · exact BdR.sq BdR.ex (fun _ => hf _ _ _)
theorem rd_bd {tp : List Int} : ∀ (m nt : Nat) (dp a : Int), BdR (rd tp m nt dp a)
  | 0, nt, dp, a => BdR.nil
  | m + 1, nt, dp, a => rdS_bd (rd_bd m) nt dp a
/-- values on the stack by their sorts -/
def VOK : List Bool → List Int → Prop
  | [], [] => True
  | b :: ts, v :: st => (-1000000 ≤ v ∧ v ≤ 1000000) ∧ (b = true → v = 0 ∨ v = 1) ∧ VOK ts st
  | _, _ => False
theorem VOK.len : ∀ {ts : List Bool} {st : List Int}, VOK ts st → st.length = ts.length
  | [], [], _ => rfl
  | _ :: _, _ :: _, h => by rw [List.length_cons, List.length_cons, VOK.len h.2.2]
  | [], _ :: _, h => h.elim
  | _ :: _, [], h => h.elim
theorem VOK.c {b : Bool} {ts : List Bool} {st : List Int} (h : VOK (b :: ts) st) : ∃ v s2, st = v :: s2 ∧ (-1000000 ≤ v ∧ v ≤ 1000000) ∧ (b = true → v = 0 ∨ v = 1) ∧ VOK ts s2 := by
  cases st with
  | nil => exact h.elim
  | cons v s2 => exact ⟨v, s2, rfl, h.1, h.2.1, h.2.2⟩
theorem VOK.nl {st : List Int} (h : VOK [] st) : st = [] := by
  cases st with
  | nil => rfl
  | cons v s2 => exact h.elim
/-- what a step that goes through is -/
theorem ty1_c {s : Int} {ts t : List Bool} (h : ty1 s ts = some t) : ((0 ≤ s ∨ s ≤ -13) ∧ ts.length < 64 ∧ t = false :: ts) ∨ (s = -8 ∧ ∃ u, ts = true :: u ∧ t = true :: u) ∨ ((s = -9 ∨ s = -10) ∧ ∃ u, ts = true :: true :: u ∧ t = true :: u) ∨ ((-4 ≤ s ∧ s < 0) ∧ ∃ u, ts = false :: false :: u ∧ t = false :: u) ∨ ((-7 ≤ s ∧ s < -4) ∧ ∃ u, ts = false :: false :: u ∧ t = true :: u) := by
  unfold ty1 at h
  split at h
  · rename_i hs
    split at h
    · rename_i hl
      cases h
      exact Or.inl ⟨hs, hl, rfl⟩
    · cases h
  · rename_i hs
    split at h
    · split at h
      · rename_i e
        cases h
        exact Or.inr (Or.inl ⟨e, _, rfl, rfl⟩)
      · split at h
        · split at h
          · rename_i e
            cases h
            exact Or.inr (Or.inr (Or.inl ⟨e, _, rfl, rfl⟩))
          · cases h
        · cases h
    · split at h
      · cases h
        exact Or.inr (Or.inr (Or.inr (Or.inl ⟨by omega, _, rfl, rfl⟩)))
      · split at h
        · cases h
          exact Or.inr (Or.inr (Or.inr (Or.inr ⟨by omega, _, rfl, rfl⟩)))
        · cases h
    · cases h
/-- the stack as an array, the top one behind all others -/
def SkR (f : Int → Int) : List Int → Prop
  | [] => True
  | v :: st => f (st.length : Int) = v ∧ SkR f st
theorem SkR.up {f : Int → Int} {k v : Int} : ∀ {st : List Int}, SkR f st → (st.length : Int) ≤ k → SkR (usz f k v) st
  | [], _, _ => trivial
  | x :: st, h, hk => by
    have hk' : ((st.length + 1 : Nat) : Int) ≤ k := hk
    exact ⟨by rw [usz_n (by omega)]; exact h.1, SkR.up h.2 (by omega)⟩
theorem SkR.pu {f : Int → Int} {v : Int} {st : List Int} (h : SkR f st) : SkR (usz f (st.length : Int) v) (v :: st) := ⟨usz_s _ _ _, SkR.up h (Int.le_refl _)⟩
/-- where steps go on -/
theorem drop_c {cs r : List Int} {s i : Int} (h0 : 0 ≤ i) (h : cs.drop i.toNat = s :: r) : i < (cs.length : Int) ∧ lat cs i = s ∧ cs.drop (i + 1).toNat = r := by
  have hl : i.toNat < cs.length := by
    have := congrArg List.length h
    rw [List.length_drop, List.length_cons] at this
    omega
  refine ⟨by omega, ?_, ?_⟩
  · have h1 : (cs.drop i.toNat)[0]? = some s := by rw [h]; rfl
    rw [List.getElem?_drop, Nat.add_zero] at h1
    rw [lat_q, h1]
    rfl
  · rw [show (i + 1).toNat = i.toNat + 1 by omega, ← List.drop_drop, h]
    rfl
theorem drop_n {cs : List Int} {i : Int} (h0 : 0 ≤ i) (h : cs.drop i.toNat = []) : (cs.length : Int) ≤ i := by
  have := List.drop_eq_nil_iff.mp h
  omega
theorem drop_k {cs r : List Int} {i : Int} {k : Nat} (h0 : 0 ≤ i) (h : cs.drop i.toNat = r) : cs.drop (i + (k : Int)).toNat = r.drop k := by
  rw [show (i + (k : Int)).toNat = i.toNat + k by omega, ← List.drop_drop, h]
