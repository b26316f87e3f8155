/-! the class: a rule's steps are gone through, by wip/tools -/
/-! the class: a rule's steps are gone through -/
section RQGen
variable {K : PK} {d own : Nat} {ini : Bool} {rt : Option FieldType} {cd : PC} {pc : Nat} {L : PL} {st : List Value} {g : PG} {Q : Option Value → PG → Prop}
theorem RQ.getfG {len i a ci kf : Nat} {fs : List Value} {v : Value} {lc : List Nat} (hf : pfetch cd pc = some (.getfield i, len)) (hp : pfld own i = some (lc, kf)) (ha : g.1[a]? = some (.inr (ci, fs))) (hl : lc.elem ci = true) (hv : fs[kf]? = some v) (k : RQ K d own ini rt cd (pc + 3) L (v :: st) g Q) : RQ K d own ini rt cd pc L (.ref a :: st) g Q := by
  refine RQ.step hf (S := (pc + 3, L, v :: st, g)) ?_ k
  show pgetf own i pc L g (.ref a :: st) = _
  simp only [pgetf, hp, ha, hl, hv, cond_true]
theorem RQ.putfG {len i a ci kf : Nat} {fs : List Value} {v : Value} {lc : List Nat} {g1 : PG} (hf : pfetch cd pc = some (.putfield i, len)) (hp : pfld own i = some (lc, kf)) (ha : g.1[a]? = some (.inr (ci, fs))) (hl : lc.elem ci = true) (hfit : pfit (tyOf ci kf) v = true) (hfin : pfin own ini ci kf = true) (hln : Nat.ble (kf + 1) fs.length = true) (hg : (g.1.set a (.inr (ci, fs.set kf v)), g.2) = g1) (k : RQ K d own ini rt cd (pc + 3) L st g1 Q) : RQ K d own ini rt cd pc L (v :: .ref a :: st) g Q := by
  subst hg
  refine RQ.step hf (S := (pc + 3, L, st, (g.1.set a (.inr (ci, fs.set kf v)), g.2))) ?_ k
  show pputf own ini i pc L g (v :: .ref a :: st) = _
  simp only [pputf, hp, ha, hl, hfit, hfin, hln, Bool.and_self, cond_true]
theorem RQ.callV {len i n a ci k : Nat} {fs r : List Value} {l1 : List (Nat × Nat)} {rv : Option Value} {g1 : PG} (hf : pfetch cd pc = some (.invokevirtual i, len)) (h1 : pinvV own i = some (n, l1)) (h2 : st.drop n = .ref a :: r) (h3 : g.1[a]? = some (.inr (ci, fs))) (h4 : alook ci l1 = some k) (h5 : Nat.ble (pwords r) 8 = true) (ho : CallR K d k (.ref a :: (st.take n).reverse) g rv g1) (kk : RQ K d own ini rt cd (pc + 3) L (rv.toList ++ r) g1 Q) : RQ K d own ini rt cd pc L st g Q := by
  refine RQ.call (ins := .invokevirtual i) hf ?_ ho kk
  simp only [pcall, h1, h2, h3, h4, h5, cond_true]
theorem RQ.callVQ {len i n a ci k : Nat} {fs r : List Value} {l1 : List (Nat × Nat)} {Q1 : Option Value → PG → Prop} (hf : pfetch cd pc = some (.invokevirtual i, len)) (h1 : pinvV own i = some (n, l1)) (h2 : st.drop n = .ref a :: r) (h3 : g.1[a]? = some (.inr (ci, fs))) (h4 : alook ci l1 = some k) (h5 : Nat.ble (pwords r) 8 = true) (ho : CQ K d k (.ref a :: (st.take n).reverse) g Q1) (kk : ∀ rv g1, Q1 rv g1 → RQ K d own ini rt cd (pc + 3) L (rv.toList ++ r) g1 Q) : RQ K d own ini rt cd pc L st g Q := by
  obtain ⟨rv, g1, e1, e2⟩ := ho
  exact RQ.callV hf h1 h2 h3 h4 h5 e1 (kk rv g1 e2)
end RQGen
/-- a heap with a rule in it: the rule, its stack -/
def cg (h : List PO) (c a b : Nat) (size : Int) (stk : Int → Int) (top : Int) : List PO := (h.set a (.inl (0, 64, .inl (zA stk)))).set c (.inr (0, [.ref b, .int (iI size), .ref a, .int (iI top)]))
def CgOK (h : List PO) (c a b n : Nat) (stp : Int → Int) : Prop := c < h.length ∧ a < h.length ∧ a ≠ c ∧ b ≠ a ∧ b ≠ c ∧ h[b]? = some (.inl (0, n, .inl (zA stp))) ∧ n ≤ 1000
section Cg
variable {h : List PO} {c a b n : Nat} {stp stk : Int → Int} {size top : Int}
theorem cg_c (H : CgOK h c a b n stp) : (cg h c a b size stk top)[c]? = some (.inr (0, [.ref b, .int (iI size), .ref a, .int (iI top)])) := List.getElem?_set_self (by rw [List.length_set]; exact H.1)
theorem cg_a (H : CgOK h c a b n stp) : (cg h c a b size stk top)[a]? = some (.inl (0, 64, .inl (zA stk))) := by
  unfold cg
  rw [List.getElem?_set_ne (Ne.symm H.2.2.1)]
  exact List.getElem?_set_self H.2.1
theorem cg_l {l : Nat} (h1 : l ≠ c) (h2 : l ≠ a) : (cg h c a b size stk top)[l]? = h[l]? := by
  unfold cg
  rw [List.getElem?_set_ne (Ne.symm h1), List.getElem?_set_ne (Ne.symm h2)]
theorem cg_b (H : CgOK h c a b n stp) : (cg h c a b size stk top)[b]? = some (.inl (0, n, .inl (zA stp))) := (cg_l H.2.2.2.2.1 H.2.2.2.1).trans H.2.2.2.2.2.1
theorem cg_sc {top' : Int} : (cg h c a b size stk top).set c (.inr (0, [.ref b, .int (iI size), .ref a, .int (iI top')])) = cg h c a b size stk top' := by
  unfold cg
  rw [List.set_set]
theorem cg_sa (H : CgOK h c a b n stp) (stk' : Int → Int) : (cg h c a b size stk top).set a (.inl (0, 64, .inl (zA stk'))) = cg h c a b size stk' top := by
  unfold cg
  rw [List.set_comm _ _ (Ne.symm H.2.2.1), List.set_set]
end Cg
def jv (s l r : Int) : Int := if s = -1 then l + r else if s = -2 then l - r else if s = -3 then l * r else if s = -4 then (if r = 0 then 0 else l.tdiv r) else if s = -5 then (if l = r then 1 else 0) else if s = -6 then (if l < r then 1 else 0) else if s = -7 then (if r < l then 1 else 0) else if s = -9 then (if l = 1 ∧ r = 1 then 1 else 0) else (if l = 1 ∨ r = 1 then 1 else 0)
theorem jn_jv (s l r : Int) : jn s l r = wi (jv s l r) := rfl
theorem jv_r {s l r : Int} (hl : -1000000 ≤ l ∧ l ≤ 1000000) (hr : -1000000 ≤ r ∧ r ≤ 1000000) : -1000000000000 ≤ jv s l r ∧ jv s l r ≤ 1000000000000 := by
  have h1 := mul_b hl hr
  have h2 := tdiv_r (b := r) hl
  unfold jv
  repeat' split
  all_goals omega
theorem wo_st {L : Int → Int} {s : Int} {r st : List Int} (h1 : s ≠ -12) (h2 : s ≠ -11) : wo L (s :: r) false st = wo L r false (ev1 L s st) := by
  show (if s = -12 then st.headD 0 else if s = -11 then wo L r (decide (st.headD 0 = 0)) st.tail else wo L r false (ev1 L s st)) = _
  rw [if_neg h1, if_neg h2]
theorem jv_b {s l r : Int} (h : s ≤ -5) : wi (jv s l r) = 0 ∨ wi (jv s l r) = 1 := by
  unfold jv
  repeat' split
  all_goals first | omega | exact Or.inl rfl | exact Or.inr rfl
theorem cnd_r : ∀ (c : List Int), (cnd c : Int) ≤ (c.length : Int)
  | [] => Int.le_refl _
  | s :: c => by
    have := cnd_r c
    show (((if s = -12 then 0 else cnd c + 1 : Nat)) : Int) ≤ ((c.length + 1 : Nat) : Int)
    split <;> omega
theorem ev1_n {L : Int → Int} {s : Int} {st : List Int} (h : 0 ≤ s) : ev1 L s st = s :: st := if_pos h
theorem ev1_l {L : Int → Int} {s : Int} {st : List Int} (h : s ≤ -13) : ev1 L s st = L (-13 - s) :: st := by
  unfold ev1
  rw [if_neg (by omega), if_pos h]
theorem ev1_j {L : Int → Int} {s l r : Int} {st : List Int} (h : -12 ≤ s ∧ s < 0 ∧ s ≠ -8) : ev1 L s (r :: l :: st) = jn s l r :: st := by
  unfold ev1
  rw [if_neg (by omega), if_neg (by omega), if_neg h.2.2]
  rfl
theorem x_push {K : PK} {d : Nat} {h : List PO} {c a b n : Nat} {stp stk : Int → Int} {size top : Int} {q : Nat × Nat} (hC : CgOK h c a b n stp) {v : Int} (rt9 : 0 ≤ top ∧ top < 64) : CallR K (d + 1) 5 [.ref c, .int (iI v)] (cg h c a b size stk top, q) none (cg h c a b size (usz stk top v) (top + 1), q) := by
  apply CQ.x
  refine CQ.of (own := 0) (n := 2) (ini := false) (rt := none) (cd := cd5) (by decide +kernel) rfl (by decide +kernel) rfl (Nat.le_of_ble_eq_true rfl) ?_
  refine RQ.seg 1 (pc' := 1) (L' := [some (.ref c), some (.int (iI v))]) (st' := [.ref c]) (g1 := (cg h c a b size stk top, q)) rfl ?_
  refine RQ.getfG rfl rfl (cg_c hC) rfl rfl ?_
  refine RQ.seg 1 (pc' := 5) (L' := [some (.ref c), some (.int (iI v))]) (st' := [.ref c, .int (iI top)]) (g1 := (cg h c a b size stk top, q)) rfl ?_
  refine RQ.getfG rfl rfl (cg_c hC) rfl rfl ?_
  refine RQ.alen rfl (cg_a hC) ?_
  refine RQ.if2 (a := top) (b := 64) rfl rfl rfl rfl (by omega) (by omega) (fun (q : 64 ≤ top) => absurd q (show ¬ 64 ≤ top from by omega)) (fun _ => ?_)
  refine RQ.seg 1 (pc' := 13) (L' := [some (.ref c), some (.int (iI v))]) (st' := [.ref c]) (g1 := (cg h c a b size stk top, q)) rfl ?_
  refine RQ.getfG rfl rfl (cg_c hC) rfl rfl ?_
  refine RQ.seg 1 (pc' := 17) (L' := [some (.ref c), some (.int (iI v))]) (st' := [.ref c, .ref a]) (g1 := (cg h c a b size stk top, q)) rfl ?_
  refine RQ.getfG rfl rfl (cg_c hC) rfl rfl ?_
  refine RQ.seg 1 (pc' := 21) (L' := [some (.ref c), some (.int (iI v))]) (st' := [.int (iI v), .int (iI top), .ref a]) (g1 := (cg h c a b size stk top, q)) rfl ?_
  refine RQ.iast (z := top) (v := v) (g1 := (cg h c a b size (usz stk top v) top, q)) rfl rfl rfl (cg_a hC) (by omega) (by decide) (congrArg (·, q) (cg_sa hC _)) ?_
  refine RQ.seg 2 (pc' := 24) (L' := [some (.ref c), some (.int (iI v))]) (st' := [.ref c, .ref c]) (g1 := (cg h c a b size (usz stk top v) top, q)) rfl ?_
  refine RQ.getfG rfl rfl (cg_c hC) rfl rfl ?_
  refine RQ.seg 2 (pc' := 29) (L' := [some (.ref c), some (.int (iI v))]) (st' := [.int ((iI top) + (iI 1)), .ref c]) (g1 := (cg h c a b size (usz stk top v) top, q)) rfl ?_
  refine RQ.to (L' := [some (.ref c), some (.int (iI v))]) (st' := [.int (iI (top + 1)), .ref c]) rfl (by simp only [iI_add, iI_sub, iI_mul, iI_neg]) ?_
  refine RQ.putfG (g1 := (cg h c a b size (usz stk top v) (top + 1), q)) rfl rfl (cg_c hC) rfl rfl rfl rfl (congrArg (·, q) cg_sc) ?_
  refine RQ.ret rfl rfl ?_
  exact ⟨rfl, rfl⟩
theorem x_pop {K : PK} {d : Nat} {h : List PO} {c a b n : Nat} {stp stk : Int → Int} {size top : Int} {q : Nat × Nat} (hC : CgOK h c a b n stp) {v : Int} (rt9 : 0 < top ∧ top ≤ 64) (hv : stk (top - 1) = v) : CallR K (d + 1) 6 [.ref c] (cg h c a b size stk top, q) (some (.int (iI v))) (cg h c a b size stk (top - 1), q) := by
  apply CQ.x
  refine CQ.of (own := 0) (n := 1) (ini := false) (rt := (some .int)) (cd := cd6) (by decide +kernel) rfl (by decide +kernel) rfl (Nat.le_of_ble_eq_true rfl) ?_
  refine RQ.seg 1 (pc' := 1) (L' := [some (.ref c)]) (st' := [.ref c]) (g1 := (cg h c a b size stk top, q)) rfl ?_
  refine RQ.getfG rfl rfl (cg_c hC) rfl rfl ?_
  refine RQ.if1 (a := top) rfl rfl rfl (by omega) (fun _ => ?_) (fun (q : ¬ 0 < top) => absurd (show 0 < top from by omega) q)
  refine RQ.seg 2 (pc' := 11) (L' := [some (.ref c)]) (st' := [.ref c, .ref c]) (g1 := (cg h c a b size stk top, q)) rfl ?_
  refine RQ.getfG rfl rfl (cg_c hC) rfl rfl ?_
  refine RQ.seg 2 (pc' := 16) (L' := [some (.ref c)]) (st' := [.int ((iI top) - (iI 1)), .ref c]) (g1 := (cg h c a b size stk top, q)) rfl ?_
  refine RQ.to (L' := [some (.ref c)]) (st' := [.int (iI (top - 1)), .ref c]) rfl (by simp only [iI_add, iI_sub, iI_mul, iI_neg]) ?_
  refine RQ.putfG (g1 := (cg h c a b size stk (top - 1), q)) rfl rfl (cg_c hC) rfl rfl rfl rfl (congrArg (·, q) cg_sc) ?_
  refine RQ.seg 1 (pc' := 20) (L' := [some (.ref c)]) (st' := [.ref c]) (g1 := (cg h c a b size stk (top - 1), q)) rfl ?_
  refine RQ.getfG rfl rfl (cg_c hC) rfl rfl ?_
  refine RQ.seg 1 (pc' := 24) (L' := [some (.ref c)]) (st' := [.ref c, .ref a]) (g1 := (cg h c a b size stk (top - 1), q)) rfl ?_
  refine RQ.getfG rfl rfl (cg_c hC) rfl rfl ?_
  refine RQ.ialdv (z := (top - 1)) (v := v) rfl rfl (cg_a hC) (by omega) (by decide) hv ?_
  refine RQ.ret rfl rfl ?_
  exact ⟨rfl, rfl⟩
theorem x_jnby {K : PK} {d : Nat} {g : PG} {s l r : Int} (hs : -10 ≤ s ∧ s ≤ -1 ∧ s ≠ -8) (rl9 : -1000000 ≤ l ∧ l ≤ 1000000) (rr9 : -1000000 ≤ r ∧ r ≤ 1000000) (h9 : s ≤ -9 → (l = 0 ∨ l = 1) ∧ (r = 0 ∨ r = 1)) : CallR K (d + 1) 7 [.int (iI s), .int (iI l), .int (iI r)] g (some (.long (lL (jv s l r)))) g := by
  apply CQ.x
  refine CQ.of (own := 0) (n := 3) (ini := false) (rt := (some .long)) (cd := cd7) (by decide +kernel) rfl (by decide +kernel) rfl (Nat.le_of_ble_eq_true rfl) ?_
  refine RQ.seg 1 (pc' := 1) (L' := [some (.int (iI s)), some (.int (iI l)), some (.int (iI r))]) (st' := [.int (iI s)]) (g1 := g) rfl ?_
  rcases (show s = (-9) ∨ s = (-8) ∨ s = (-7) ∨ s = (-6) ∨ s = (-5) ∨ s = (-4) ∨ s = (-3) ∨ s = (-2) ∨ s = (-1) ∨ (s < (-9) ∨ (-1) < s) by omega) with h1 | h1 | h1 | h1 | h1 | h1 | h1 | h1 | h1 | h1
  · skip
    refine RQ.tsw (z := s) (o := 113) rfl rfl (by omega) (by rw [if_neg (by omega), h1]; rfl) rfl ?_
    refine RQ.seg 2 (pc' := 116) (L' := [some (.int (iI s)), some (.int (iI l)), some (.int (iI r))]) (st' := [.int (iI r), .int (iI l)]) (g1 := g) rfl ?_
    rcases (show (l = 0 ∧ r = 0) ∨ (l = 0 ∧ r = 1) ∨ (l = 1 ∧ r = 0) ∨ (l = 1 ∧ r = 1) by omega) with ⟨e1, e2⟩ | ⟨e1, e2⟩ | ⟨e1, e2⟩ | ⟨e1, e2⟩
    · subst e1 e2
      refine RQ.seg 1 (pc' := 117) (L' := [some (.int (iI s)), some (.int (iI 0)), some (.int (iI 0))]) (st' := [.int (iI 0)]) (g1 := g) rfl ?_
      refine RQ.seg 1 (pc' := 118) (L' := [some (.int (iI s)), some (.int (iI 0)), some (.int (iI 0))]) (st' := [.long (lL 0)]) (g1 := g) rfl ?_
      refine RQ.ret rfl rfl ?_
      refine ⟨?_, rfl⟩
      have e : jv s 0 0 = 0 := by unfold jv; repeat (first | rw [if_pos (by omega)] | rw [if_neg (by omega)])
      rw [e]
    · subst e1 e2
      refine RQ.seg 1 (pc' := 117) (L' := [some (.int (iI s)), some (.int (iI 0)), some (.int (iI 1))]) (st' := [.int (iI 0)]) (g1 := g) rfl ?_
      refine RQ.seg 1 (pc' := 118) (L' := [some (.int (iI s)), some (.int (iI 0)), some (.int (iI 1))]) (st' := [.long (lL 0)]) (g1 := g) rfl ?_
      refine RQ.ret rfl rfl ?_
      refine ⟨?_, rfl⟩
      have e : jv s 0 1 = 0 := by unfold jv; repeat (first | rw [if_pos (by omega)] | rw [if_neg (by omega)])
      rw [e]
    · subst e1 e2
      refine RQ.seg 1 (pc' := 117) (L' := [some (.int (iI s)), some (.int (iI 1)), some (.int (iI 0))]) (st' := [.int (iI 0)]) (g1 := g) rfl ?_
      refine RQ.seg 1 (pc' := 118) (L' := [some (.int (iI s)), some (.int (iI 1)), some (.int (iI 0))]) (st' := [.long (lL 0)]) (g1 := g) rfl ?_
      refine RQ.ret rfl rfl ?_
      refine ⟨?_, rfl⟩
      have e : jv s 1 0 = 0 := by unfold jv; repeat (first | rw [if_pos (by omega)] | rw [if_neg (by omega)])
      rw [e]
    · subst e1 e2
      refine RQ.seg 1 (pc' := 117) (L' := [some (.int (iI s)), some (.int (iI 1)), some (.int (iI 1))]) (st' := [.int (iI 1)]) (g1 := g) rfl ?_
      refine RQ.seg 1 (pc' := 118) (L' := [some (.int (iI s)), some (.int (iI 1)), some (.int (iI 1))]) (st' := [.long (lL 1)]) (g1 := g) rfl ?_
      refine RQ.ret rfl rfl ?_
      refine ⟨?_, rfl⟩
      have e : jv s 1 1 = 1 := by unfold jv; repeat (first | rw [if_pos (by omega)] | rw [if_neg (by omega)])
      rw [e]
  · skip
    refine RQ.tsw (z := s) (o := 118) rfl rfl (by omega) (by rw [if_neg (by omega), h1]; rfl) rfl ?_
    refine RQ.seg 2 (pc' := 121) (L' := [some (.int (iI s)), some (.int (iI l)), some (.int (iI r))]) (st' := [.int (iI r), .int (iI l)]) (g1 := g) rfl ?_
    exfalso; omega
  · skip
    refine RQ.tsw (z := s) (o := 102) rfl rfl (by omega) (by rw [if_neg (by omega), h1]; rfl) rfl ?_
    refine RQ.seg 2 (pc' := 105) (L' := [some (.int (iI s)), some (.int (iI l)), some (.int (iI r))]) (st' := [.int (iI r), .int (iI l)]) (g1 := g) rfl ?_
    refine RQ.if2 (a := l) (b := r) rfl rfl rfl rfl (by omega) (by omega) (fun (h2 : l ≤ r) => ?_) (fun (h2 : ¬ l ≤ r) => ?_)
    · skip
      refine RQ.seg 1 (pc' := 113) (L' := [some (.int (iI s)), some (.int (iI l)), some (.int (iI r))]) (st' := [.long (lL 0)]) (g1 := g) rfl ?_
      refine RQ.ret rfl rfl ?_
      refine ⟨?_, rfl⟩
      have e : jv s l r = 0 := by unfold jv; repeat (first | rw [if_pos (by omega)] | rw [if_neg (by omega)])
      rw [e]
    · skip
      refine RQ.seg 2 (pc' := 113) (L' := [some (.int (iI s)), some (.int (iI l)), some (.int (iI r))]) (st' := [.long (lL 1)]) (g1 := g) rfl ?_
      refine RQ.ret rfl rfl ?_
      refine ⟨?_, rfl⟩
      have e : jv s l r = 1 := by unfold jv; repeat (first | rw [if_pos (by omega)] | rw [if_neg (by omega)])
      rw [e]
  · skip
    refine RQ.tsw (z := s) (o := 91) rfl rfl (by omega) (by rw [if_neg (by omega), h1]; rfl) rfl ?_
    refine RQ.seg 2 (pc' := 94) (L' := [some (.int (iI s)), some (.int (iI l)), some (.int (iI r))]) (st' := [.int (iI r), .int (iI l)]) (g1 := g) rfl ?_
    refine RQ.if2 (a := l) (b := r) rfl rfl rfl rfl (by omega) (by omega) (fun (h3 : r ≤ l) => ?_) (fun (h3 : ¬ r ≤ l) => ?_)
    · skip
      refine RQ.seg 1 (pc' := 102) (L' := [some (.int (iI s)), some (.int (iI l)), some (.int (iI r))]) (st' := [.long (lL 0)]) (g1 := g) rfl ?_
      refine RQ.ret rfl rfl ?_
      refine ⟨?_, rfl⟩
      have e : jv s l r = 0 := by unfold jv; repeat (first | rw [if_pos (by omega)] | rw [if_neg (by omega)])
      rw [e]
    · skip
      refine RQ.seg 2 (pc' := 102) (L' := [some (.int (iI s)), some (.int (iI l)), some (.int (iI r))]) (st' := [.long (lL 1)]) (g1 := g) rfl ?_
      refine RQ.ret rfl rfl ?_
      refine ⟨?_, rfl⟩
      have e : jv s l r = 1 := by unfold jv; repeat (first | rw [if_pos (by omega)] | rw [if_neg (by omega)])
      rw [e]
  · skip
    refine RQ.tsw (z := s) (o := 80) rfl rfl (by omega) (by rw [if_neg (by omega), h1]; rfl) rfl ?_
    refine RQ.seg 2 (pc' := 83) (L' := [some (.int (iI s)), some (.int (iI l)), some (.int (iI r))]) (st' := [.int (iI r), .int (iI l)]) (g1 := g) rfl ?_
    refine RQ.if2 (a := l) (b := r) rfl rfl rfl rfl (by omega) (by omega) (fun (h4 : l ≠ r) => ?_) (fun (h4 : ¬ l ≠ r) => ?_)
    · skip
      refine RQ.seg 1 (pc' := 91) (L' := [some (.int (iI s)), some (.int (iI l)), some (.int (iI r))]) (st' := [.long (lL 0)]) (g1 := g) rfl ?_
      refine RQ.ret rfl rfl ?_
      refine ⟨?_, rfl⟩
      have e : jv s l r = 0 := by unfold jv; repeat (first | rw [if_pos (by omega)] | rw [if_neg (by omega)])
      rw [e]
    · skip
      refine RQ.seg 2 (pc' := 91) (L' := [some (.int (iI s)), some (.int (iI l)), some (.int (iI r))]) (st' := [.long (lL 1)]) (g1 := g) rfl ?_
      refine RQ.ret rfl rfl ?_
      refine ⟨?_, rfl⟩
      have e : jv s l r = 1 := by unfold jv; repeat (first | rw [if_pos (by omega)] | rw [if_neg (by omega)])
      rw [e]
  · skip
    refine RQ.tsw (z := s) (o := 67) rfl rfl (by omega) (by rw [if_neg (by omega), h1]; rfl) rfl ?_
    refine RQ.seg 1 (pc' := 69) (L' := [some (.int (iI s)), some (.int (iI l)), some (.int (iI r))]) (st' := [.int (iI r)]) (g1 := g) rfl ?_
    refine RQ.if1 (a := r) rfl rfl rfl (by omega) (fun (h5 : r ≠ 0) => ?_) (fun (h5 : ¬ r ≠ 0) => ?_)
    · skip
      refine RQ.seg 2 (pc' := 78) (L' := [some (.int (iI s)), some (.int (iI l)), some (.int (iI r))]) (st' := [.int (iI r), .int (iI l)]) (g1 := g) rfl ?_
      have htd := tdiv_r (b := r) rl9
      refine RQ.idivt (a := l) (b := r) rfl rl9 rr9 (by omega) ?_
      refine RQ.seg 1 (pc' := 80) (L' := [some (.int (iI s)), some (.int (iI l)), some (.int (iI r))]) (st' := [.long ((iI (l.tdiv r)).toInt64)]) (g1 := g) rfl ?_
      refine RQ.to (L' := [some (.int (iI s)), some (.int (iI l)), some (.int (iI r))]) (st' := [.long (lL (l.tdiv r))]) rfl (by rw [iI_64 (by omega)]) ?_
      refine RQ.ret rfl rfl ?_
      refine ⟨?_, rfl⟩
      have e : jv s l r = l.tdiv r := by unfold jv; repeat (first | rw [if_pos (by omega)] | rw [if_neg (by omega)])
      rw [e]
    · skip
      refine RQ.seg 2 (pc' := 80) (L' := [some (.int (iI s)), some (.int (iI l)), some (.int (iI r))]) (st' := [.long (lL 0)]) (g1 := g) rfl ?_
      refine RQ.ret rfl rfl ?_
      refine ⟨?_, rfl⟩
      have e : jv s l r = 0 := by unfold jv; repeat (first | rw [if_pos (by omega)] | rw [if_neg (by omega)])
      rw [e]
  · skip
    refine RQ.tsw (z := s) (o := 61) rfl rfl (by omega) (by rw [if_neg (by omega), h1]; rfl) rfl ?_
    refine RQ.seg 1 (pc' := 63) (L' := [some (.int (iI s)), some (.int (iI l)), some (.int (iI r))]) (st' := [.int (iI l)]) (g1 := g) rfl ?_
    refine RQ.seg 1 (pc' := 64) (L' := [some (.int (iI s)), some (.int (iI l)), some (.int (iI r))]) (st' := [.long ((iI l).toInt64)]) (g1 := g) rfl ?_
    refine RQ.to (L' := [some (.int (iI s)), some (.int (iI l)), some (.int (iI r))]) (st' := [.long (lL l)]) rfl (by rw [iI_64 (by omega)]) ?_
    refine RQ.seg 1 (pc' := 65) (L' := [some (.int (iI s)), some (.int (iI l)), some (.int (iI r))]) (st' := [.int (iI r), .long (lL l)]) (g1 := g) rfl ?_
    refine RQ.seg 1 (pc' := 66) (L' := [some (.int (iI s)), some (.int (iI l)), some (.int (iI r))]) (st' := [.long ((iI r).toInt64), .long (lL l)]) (g1 := g) rfl ?_
    refine RQ.to (L' := [some (.int (iI s)), some (.int (iI l)), some (.int (iI r))]) (st' := [.long (lL r), .long (lL l)]) rfl (by rw [iI_64 (by omega)]) ?_
    refine RQ.seg 1 (pc' := 67) (L' := [some (.int (iI s)), some (.int (iI l)), some (.int (iI r))]) (st' := [.long ((lL l) * (lL r))]) (g1 := g) rfl ?_
    refine RQ.to (L' := [some (.int (iI s)), some (.int (iI l)), some (.int (iI r))]) (st' := [.long (lL (l * r))]) rfl (by simp only [iI_add, iI_sub, iI_mul, iI_neg, lL_add, lL_sub, lL_mul]) ?_
    refine RQ.ret rfl rfl ?_
    refine ⟨?_, rfl⟩
    have e : jv s l r = l * r := by unfold jv; repeat (first | rw [if_pos (by omega)] | rw [if_neg (by omega)])
    rw [e]
  · skip
    refine RQ.tsw (z := s) (o := 56) rfl rfl (by omega) (by rw [if_neg (by omega), h1]; rfl) rfl ?_
    refine RQ.seg 3 (pc' := 60) (L' := [some (.int (iI s)), some (.int (iI l)), some (.int (iI r))]) (st' := [.int ((iI l) - (iI r))]) (g1 := g) rfl ?_
    refine RQ.to (L' := [some (.int (iI s)), some (.int (iI l)), some (.int (iI r))]) (st' := [.int (iI (l - r))]) rfl (by simp only [iI_add, iI_sub, iI_mul, iI_neg]) ?_
    refine RQ.seg 1 (pc' := 61) (L' := [some (.int (iI s)), some (.int (iI l)), some (.int (iI r))]) (st' := [.long ((iI (l - r)).toInt64)]) (g1 := g) rfl ?_
    refine RQ.to (L' := [some (.int (iI s)), some (.int (iI l)), some (.int (iI r))]) (st' := [.long (lL (l - r))]) rfl (by rw [iI_64 (by omega)]) ?_
    refine RQ.ret rfl rfl ?_
    refine ⟨?_, rfl⟩
    have e : jv s l r = l - r := by unfold jv; repeat (first | rw [if_pos (by omega)] | rw [if_neg (by omega)])
    rw [e]
  · skip
    refine RQ.tsw (z := s) (o := 51) rfl rfl (by omega) (by rw [if_neg (by omega), h1]; rfl) rfl ?_
    refine RQ.seg 3 (pc' := 55) (L' := [some (.int (iI s)), some (.int (iI l)), some (.int (iI r))]) (st' := [.int ((iI l) + (iI r))]) (g1 := g) rfl ?_
    refine RQ.to (L' := [some (.int (iI s)), some (.int (iI l)), some (.int (iI r))]) (st' := [.int (iI (l + r))]) rfl (by simp only [iI_add, iI_sub, iI_mul, iI_neg]) ?_
    refine RQ.seg 1 (pc' := 56) (L' := [some (.int (iI s)), some (.int (iI l)), some (.int (iI r))]) (st' := [.long ((iI (l + r)).toInt64)]) (g1 := g) rfl ?_
    refine RQ.to (L' := [some (.int (iI s)), some (.int (iI l)), some (.int (iI r))]) (st' := [.long (lL (l + r))]) rfl (by rw [iI_64 (by omega)]) ?_
    refine RQ.ret rfl rfl ?_
    refine ⟨?_, rfl⟩
    have e : jv s l r = l + r := by unfold jv; repeat (first | rw [if_pos (by omega)] | rw [if_neg (by omega)])
    rw [e]
  · skip
    refine RQ.tsw (z := s) (o := 118) rfl rfl (by omega) (if_pos h1) rfl ?_
    refine RQ.seg 2 (pc' := 121) (L' := [some (.int (iI s)), some (.int (iI l)), some (.int (iI r))]) (st' := [.int (iI r), .int (iI l)]) (g1 := g) rfl ?_
    rcases (show (l = 0 ∧ r = 0) ∨ (l = 0 ∧ r = 1) ∨ (l = 1 ∧ r = 0) ∨ (l = 1 ∧ r = 1) by omega) with ⟨e1, e2⟩ | ⟨e1, e2⟩ | ⟨e1, e2⟩ | ⟨e1, e2⟩
    · subst e1 e2
      refine RQ.seg 1 (pc' := 122) (L' := [some (.int (iI s)), some (.int (iI 0)), some (.int (iI 0))]) (st' := [.int (iI 0)]) (g1 := g) rfl ?_
      refine RQ.seg 1 (pc' := 123) (L' := [some (.int (iI s)), some (.int (iI 0)), some (.int (iI 0))]) (st' := [.long (lL 0)]) (g1 := g) rfl ?_
      refine RQ.ret rfl rfl ?_
      refine ⟨?_, rfl⟩
      have e : jv s 0 0 = 0 := by unfold jv; repeat (first | rw [if_pos (by omega)] | rw [if_neg (by omega)])
      rw [e]
    · subst e1 e2
      refine RQ.seg 1 (pc' := 122) (L' := [some (.int (iI s)), some (.int (iI 0)), some (.int (iI 1))]) (st' := [.int (iI 1)]) (g1 := g) rfl ?_
      refine RQ.seg 1 (pc' := 123) (L' := [some (.int (iI s)), some (.int (iI 0)), some (.int (iI 1))]) (st' := [.long (lL 1)]) (g1 := g) rfl ?_
      refine RQ.ret rfl rfl ?_
      refine ⟨?_, rfl⟩
      have e : jv s 0 1 = 1 := by unfold jv; repeat (first | rw [if_pos (by omega)] | rw [if_neg (by omega)])
      rw [e]
    · subst e1 e2
      refine RQ.seg 1 (pc' := 122) (L' := [some (.int (iI s)), some (.int (iI 1)), some (.int (iI 0))]) (st' := [.int (iI 1)]) (g1 := g) rfl ?_
      refine RQ.seg 1 (pc' := 123) (L' := [some (.int (iI s)), some (.int (iI 1)), some (.int (iI 0))]) (st' := [.long (lL 1)]) (g1 := g) rfl ?_
      refine RQ.ret rfl rfl ?_
      refine ⟨?_, rfl⟩
      have e : jv s 1 0 = 1 := by unfold jv; repeat (first | rw [if_pos (by omega)] | rw [if_neg (by omega)])
      rw [e]
    · subst e1 e2
      refine RQ.seg 1 (pc' := 122) (L' := [some (.int (iI s)), some (.int (iI 1)), some (.int (iI 1))]) (st' := [.int (iI 1)]) (g1 := g) rfl ?_
      refine RQ.seg 1 (pc' := 123) (L' := [some (.int (iI s)), some (.int (iI 1)), some (.int (iI 1))]) (st' := [.long (lL 1)]) (g1 := g) rfl ?_
      refine RQ.ret rfl rfl ?_
      refine ⟨?_, rfl⟩
      have e : jv s 1 1 = 1 := by unfold jv; repeat (first | rw [if_pos (by omega)] | rw [if_neg (by omega)])
      rw [e]
theorem x_ce_l {K : PK} {d : Nat} {h : List PO} {c a b n : Nat} {stp stk : Int → Int} {top : Int} {q : Nat × Nat} (hC : CgOK h c a b n stp) {cs : List Int} (hst : LAt (fun v => v) stp cs) (hn : cs.length ≤ n) (hb : ∀ s ∈ cs, -18 ≤ s ∧ s ≤ 9999) {i0 : Int} {Q : Option Value → PG → Prop} : ∀ (rest : List Int) (i : Int), 0 ≤ i → i ≤ (cs.length : Int) → cs.drop i.toNat = rest → Q (some (.int (iI (i + (cnd rest : Int))))) (cg h c a b (cs.length : Int) stk top, q) → RQ K (d + 0) 0 false (some .int) cd4 2 [some (.ref c), some (.int (iI i0)), some (.int (iI i))] [] (cg h c a b (cs.length : Int) stk top, q) Q
  | [], i, h0, h1, hd, hk => by
    have hn9 : n ≤ 1000 := hC.2.2.2.2.2.2
    have e := drop_n h0 hd
    refine RQ.seg 2 (pc' := 4) (L' := [some (.ref c), some (.int (iI i0)), some (.int (iI i))]) (st' := [.ref c, .int (iI i)]) (g1 := (cg h c a b (cs.length : Int) stk top, q)) rfl ?_
    refine RQ.getfG rfl rfl (cg_c hC) rfl rfl ?_
    refine RQ.if2 (a := i) (b := (cs.length : Int)) rfl rfl rfl rfl (by omega) (by omega) (fun _ => ?_) (fun (q : ¬ (cs.length : Int) ≤ i) => absurd (show (cs.length : Int) ≤ i from by omega) q)
    refine RQ.seg 1 (pc' := 30) (L' := [some (.ref c), some (.int (iI i0)), some (.int (iI i))]) (st' := [.ref c]) (g1 := (cg h c a b (cs.length : Int) stk top, q)) rfl ?_
    refine RQ.getfG rfl rfl (cg_c hC) rfl rfl ?_
    refine RQ.ret rfl rfl ?_
    rw [show i + ((cnd [] : Nat) : Int) = (cs.length : Int) by show i + ((0 : Nat) : Int) = _; omega] at hk
    exact hk
  | s :: rest, i, h0, h1, hd, hk => by
    have hn9 : n ≤ 1000 := hC.2.2.2.2.2.2
    obtain ⟨e1, e2, e3⟩ := drop_c h0 hd
    have hs0 : stp i = s := (hst i h0 e1).trans e2
    have rs : -18 ≤ s ∧ s ≤ 9999 := by rw [← e2]; exact hb _ (lat_mem ⟨h0, e1⟩)
    refine RQ.seg 2 (pc' := 4) (L' := [some (.ref c), some (.int (iI i0)), some (.int (iI i))]) (st' := [.ref c, .int (iI i)]) (g1 := (cg h c a b (cs.length : Int) stk top, q)) rfl ?_
    refine RQ.getfG rfl rfl (cg_c hC) rfl rfl ?_
    refine RQ.if2 (a := i) (b := (cs.length : Int)) rfl rfl rfl rfl (by omega) (by omega) (fun (q : (cs.length : Int) ≤ i) => absurd q (show ¬ (cs.length : Int) ≤ i from by omega)) (fun _ => ?_)
    refine RQ.seg 1 (pc' := 11) (L' := [some (.ref c), some (.int (iI i0)), some (.int (iI i))]) (st' := [.ref c]) (g1 := (cg h c a b (cs.length : Int) stk top, q)) rfl ?_
    refine RQ.getfG rfl rfl (cg_c hC) rfl rfl ?_
    refine RQ.seg 1 (pc' := 15) (L' := [some (.ref c), some (.int (iI i0)), some (.int (iI i))]) (st' := [.int (iI i), .ref b]) (g1 := (cg h c a b (cs.length : Int) stk top, q)) rfl ?_
    refine RQ.ialdv (z := i) (v := s) rfl rfl (cg_b hC) (by omega) (by omega) hs0 ?_
    refine RQ.seg 1 (pc' := 18) (L' := [some (.ref c), some (.int (iI i0)), some (.int (iI i))]) (st' := [.int (iI (-12)), .int (iI s)]) (g1 := (cg h c a b (cs.length : Int) stk top, q)) rfl ?_
    refine RQ.if2 (a := s) (b := (-12)) rfl rfl rfl rfl (by omega) (by omega) (fun (h2 : s ≠ (-12)) => ?_) (fun (h2 : ¬ s ≠ (-12)) => ?_)
    · skip
      refine RQ.seg 2 (pc' := 2) (L' := [some (.ref c), some (.int (iI i0)), some (.int ((iI i) + (iI 1)))]) (st' := []) (g1 := (cg h c a b (cs.length : Int) stk top, q)) rfl ?_
      refine RQ.to (L' := [some (.ref c), some (.int (iI i0)), some (.int (iI (i + 1)))]) (st' := []) (by simp only [iI_add, iI_sub, iI_mul, iI_neg]) rfl ?_
      refine x_ce_l hC hst hn hb rest (i + 1) (by omega) (by omega) e3 ?_
      rw [show cnd (s :: rest) = cnd rest + 1 from if_neg (by omega)] at hk
      rw [show i + 1 + (cnd rest : Int) = i + ((cnd rest + 1 : Nat) : Int) by omega]
      exact hk
    · skip
      refine RQ.seg 1 (pc' := 22) (L' := [some (.ref c), some (.int (iI i0)), some (.int (iI i))]) (st' := [.int (iI i)]) (g1 := (cg h c a b (cs.length : Int) stk top, q)) rfl ?_
      refine RQ.ret rfl rfl ?_
      rw [show cnd (s :: rest) = 0 from if_pos (by omega), show i + ((0 : Nat) : Int) = i by omega] at hk
      exact hk
theorem x_cend {K : PK} {d : Nat} {h : List PO} {c a b n : Nat} {stp stk : Int → Int} {top : Int} {q : Nat × Nat} (hC : CgOK h c a b n stp) {cs : List Int} (hst : LAt (fun v => v) stp cs) (hn : cs.length ≤ n) (hb : ∀ s ∈ cs, -18 ≤ s ∧ s ≤ 9999) {i : Int} {rest : List Int} (h0 : 0 ≤ i) (h1 : i ≤ (cs.length : Int)) (hd : cs.drop i.toNat = rest) : CallR K (d + 1) 4 [.ref c, .int (iI i)] (cg h c a b (cs.length : Int) stk top, q) (some (.int (iI (i + (cnd rest : Int))))) (cg h c a b (cs.length : Int) stk top, q) := by
  apply CQ.x
  refine CQ.of (own := 0) (n := 3) (ini := false) (rt := (some .int)) (cd := cd4) (by decide +kernel) rfl (by decide +kernel) rfl (Nat.le_of_ble_eq_true rfl) ?_
  refine RQ.seg 2 (pc' := 2) (L' := [some (.ref c), some (.int (iI i)), some (.int (iI i))]) (st' := []) (g1 := (cg h c a b (cs.length : Int) stk top, q)) rfl ?_
  exact x_ce_l hC hst hn hb rest i h0 h1 hd ⟨rfl, rfl⟩
theorem x_wo_l {K : PK} {d : Nat} {h : List PO} {c a b n l : Nat} {stp : Int → Int} {q : Nat × Nat} (hC : CgOK h c a b n stp) {cs : List Int} (hst : LAt (fun v => v) stp cs) (hn : cs.length ≤ n) (hb : ∀ s ∈ cs, -18 ≤ s ∧ s ≤ 9999) {lt : Int → Int} (hl1 : l ≠ c) (hl2 : l ≠ a) (hlt : h[l]? = some (.inl (0, 6, .inl (zA lt)))) (hL : ∀ k, 0 ≤ k → k < 6 → -1000000 ≤ lt k ∧ lt k ≤ 1000000) : ∀ (m : Nat) (rest : List Int) (i : Int) (ts : List Bool) (st : List Int) (stk : Int → Int) (top : Int) (e3 e4 e5 : Option Value), rest.length ≤ m → 0 ≤ i → i ≤ 2000 → cs.drop i.toNat = rest → wty rest ts → VOK ts st → SkR stk st → top = (st.length : Int) → (st.length : Int) ≤ 64 → RQ K (d + 2) 0 false (some .int) cd3 7 [some (.ref c), some (.ref l), some (.int (iI i)), e3, e4, e5] [] (cg h c a b (cs.length : Int) stk top, q) (fun r g' => r = some (.int (iI (wo lt rest false st))) ∧ ∃ stk' top', g' = (cg h c a b (cs.length : Int) stk' top', q))
  | m, [], i, ts, st, stk, top, e3, e4, e5, hm, h0, h1, hd, hw, hV, hS, htop, h64 => by
    have hn9 : n ≤ 1000 := hC.2.2.2.2.2.2
    have e := drop_n h0 hd
    refine RQ.seg 2 (pc' := 9) (L' := [some (.ref c), some (.ref l), some (.int (iI i)), e3, e4, e5]) (st' := [.ref c, .int (iI i)]) (g1 := (cg h c a b (cs.length : Int) stk top, q)) rfl ?_
    refine RQ.getfG rfl rfl (cg_c hC) rfl rfl ?_
    refine RQ.if2 (a := i) (b := (cs.length : Int)) rfl rfl rfl rfl (by omega) (by omega) (fun _ => ?_) (fun (q : ¬ (cs.length : Int) ≤ i) => absurd (show (cs.length : Int) ≤ i from by omega) q)
    refine RQ.seg 1 (pc' := 152) (L' := [some (.ref c), some (.ref l), some (.int (iI i)), e3, e4, e5]) (st' := [.int (iI 0)]) (g1 := (cg h c a b (cs.length : Int) stk top, q)) rfl ?_
    refine RQ.ret rfl rfl ?_
    exact ⟨rfl, _, _, rfl⟩
  | 0, s :: r, i, ts, st, stk, top, e3, e4, e5, hm, h0, h1, hd, hw, hV, hS, htop, h64 => absurd hm (by rw [List.length_cons]; omega)
  | m + 1, s :: r, i, ts, st, stk, top, e3, e4, e5, hm, h0, h1, hd, hw, hV, hS, htop, h64 => by
    have hn9 : n ≤ 1000 := hC.2.2.2.2.2.2
    obtain ⟨e1, e2, e3_⟩ := drop_c h0 hd
    have hs0 : stp i = s := (hst i h0 e1).trans e2
    have rs : -18 ≤ s ∧ s ≤ 9999 := by rw [← e2]; exact hb _ (lat_mem ⟨h0, e1⟩)
    have hm2 : r.length ≤ m := by rw [List.length_cons] at hm; omega
    have hw2 : (if s = -12 then (ts = [false] ∧ wty r []) else if s = -11 then (ts = [true] ∧ wty r []) else ∃ t, ty1 s ts = some t ∧ wty r t) := hw
    by_cases c1 : s = -12
    · rw [if_pos c1] at hw2
      obtain ⟨rfl, hw3⟩ := hw2
      obtain ⟨v1, s2, rfl, rv1, bv1, hV2⟩ := hV.c
      obtain rfl := hV2.nl
      have hl9 : ((v1 :: ([] : List Int)).length : Int) = 1 := rfl
      refine RQ.seg 2 (pc' := 9) (L' := [some (.ref c), some (.ref l), some (.int (iI i)), e3, e4, e5]) (st' := [.ref c, .int (iI i)]) (g1 := (cg h c a b (cs.length : Int) stk top, q)) rfl ?_
      refine RQ.getfG rfl rfl (cg_c hC) rfl rfl ?_
      refine RQ.if2 (a := i) (b := (cs.length : Int)) rfl rfl rfl rfl (by omega) (by omega) (fun (q : (cs.length : Int) ≤ i) => absurd q (show ¬ (cs.length : Int) ≤ i from by omega)) (fun _ => ?_)
      refine RQ.seg 1 (pc' := 16) (L' := [some (.ref c), some (.ref l), some (.int (iI i)), e3, e4, e5]) (st' := [.ref c]) (g1 := (cg h c a b (cs.length : Int) stk top, q)) rfl ?_
      refine RQ.getfG rfl rfl (cg_c hC) rfl rfl ?_
      refine RQ.seg 1 (pc' := 20) (L' := [some (.ref c), some (.ref l), some (.int (iI i)), e3, e4, e5]) (st' := [.int (iI i), .ref b]) (g1 := (cg h c a b (cs.length : Int) stk top, q)) rfl ?_
      refine RQ.ialdv (z := i) (v := s) rfl rfl (cg_b hC) (by omega) (by omega) hs0 ?_
      refine RQ.seg 3 (pc' := 25) (L' := [some (.ref c), some (.ref l), some (.int (iI i)), some (.int (iI s)), e4, e5]) (st' := [.int (iI (-12)), .int (iI s)]) (g1 := (cg h c a b (cs.length : Int) stk top, q)) rfl ?_
      refine RQ.if2 (a := s) (b := (-12)) rfl rfl rfl rfl (by omega) (by omega) (fun (q : s ≠ (-12)) => absurd q (show ¬ s ≠ (-12) from by omega)) (fun _ => ?_)
      refine RQ.seg 1 (pc' := 29) (L' := [some (.ref c), some (.ref l), some (.int (iI i)), some (.int (iI s)), e4, e5]) (st' := [.ref c]) (g1 := (cg h c a b (cs.length : Int) stk top, q)) rfl ?_
      refine RQ.callV rfl rfl rfl (cg_c hC) rfl rfl (CallR.up (d := 1) (x_pop (d := 0) hC (v := v1) (by omega) (by rw [show top - 1 = 0 by omega]; exact hS.1)) (by omega)) ?_
      refine RQ.ret rfl rfl ?_
      refine ⟨?_, _, _, rfl⟩; rw [c1]; rfl
    · rw [if_neg c1] at hw2
      by_cases c2 : s = -11
      · rw [if_pos c2] at hw2
        obtain ⟨rfl, hw3⟩ := hw2
        obtain ⟨v1, s2, rfl, rv1, bv1, hV2⟩ := hV.c
        obtain rfl := hV2.nl
        have hl9 : ((v1 :: ([] : List Int)).length : Int) = 1 := rfl
        have ew : wo lt (s :: r) false [v1] = wo lt r (decide (v1 = 0)) [] := by rw [c2]; rfl
        by_cases c3 : v1 = 0
        · skip
          refine RQ.seg 2 (pc' := 9) (L' := [some (.ref c), some (.ref l), some (.int (iI i)), e3, e4, e5]) (st' := [.ref c, .int (iI i)]) (g1 := (cg h c a b (cs.length : Int) stk top, q)) rfl ?_
          refine RQ.getfG rfl rfl (cg_c hC) rfl rfl ?_
          refine RQ.if2 (a := i) (b := (cs.length : Int)) rfl rfl rfl rfl (by omega) (by omega) (fun (q : (cs.length : Int) ≤ i) => absurd q (show ¬ (cs.length : Int) ≤ i from by omega)) (fun _ => ?_)
          refine RQ.seg 1 (pc' := 16) (L' := [some (.ref c), some (.ref l), some (.int (iI i)), e3, e4, e5]) (st' := [.ref c]) (g1 := (cg h c a b (cs.length : Int) stk top, q)) rfl ?_
          refine RQ.getfG rfl rfl (cg_c hC) rfl rfl ?_
          refine RQ.seg 1 (pc' := 20) (L' := [some (.ref c), some (.ref l), some (.int (iI i)), e3, e4, e5]) (st' := [.int (iI i), .ref b]) (g1 := (cg h c a b (cs.length : Int) stk top, q)) rfl ?_
          refine RQ.ialdv (z := i) (v := s) rfl rfl (cg_b hC) (by omega) (by omega) hs0 ?_
          refine RQ.seg 3 (pc' := 25) (L' := [some (.ref c), some (.ref l), some (.int (iI i)), some (.int (iI s)), e4, e5]) (st' := [.int (iI (-12)), .int (iI s)]) (g1 := (cg h c a b (cs.length : Int) stk top, q)) rfl ?_
          refine RQ.if2 (a := s) (b := (-12)) rfl rfl rfl rfl (by omega) (by omega) (fun _ => ?_) (fun (q : ¬ s ≠ (-12)) => absurd (show s ≠ (-12) from by omega) q)
          refine RQ.seg 1 (pc' := 34) (L' := [some (.ref c), some (.ref l), some (.int (iI i)), some (.int (iI s)), e4, e5]) (st' := [.int (iI s)]) (g1 := (cg h c a b (cs.length : Int) stk top, q)) rfl ?_
          refine RQ.if1 (a := s) rfl rfl rfl (by omega) (fun _ => ?_) (fun (q : ¬ s < 0) => absurd (show s < 0 from by omega) q)
          refine RQ.seg 2 (pc' := 48) (L' := [some (.ref c), some (.ref l), some (.int (iI i)), some (.int (iI s)), e4, e5]) (st' := [.int (iI (-13)), .int (iI s)]) (g1 := (cg h c a b (cs.length : Int) stk top, q)) rfl ?_
          refine RQ.if2 (a := s) (b := (-13)) rfl rfl rfl rfl (by omega) (by omega) (fun _ => ?_) (fun (q : ¬ (-13) < s) => absurd (show (-13) < s from by omega) q)
          refine RQ.seg 2 (pc' := 80) (L' := [some (.ref c), some (.ref l), some (.int (iI i)), some (.int (iI s)), e4, e5]) (st' := [.int (iI (-8)), .int (iI s)]) (g1 := (cg h c a b (cs.length : Int) stk top, q)) rfl ?_
          refine RQ.if2 (a := s) (b := (-8)) rfl rfl rfl rfl (by omega) (by omega) (fun _ => ?_) (fun (q : ¬ s ≠ (-8)) => absurd (show s ≠ (-8) from by omega) q)
          refine RQ.seg 2 (pc' := 99) (L' := [some (.ref c), some (.ref l), some (.int (iI i)), some (.int (iI s)), e4, e5]) (st' := [.int (iI (-11)), .int (iI s)]) (g1 := (cg h c a b (cs.length : Int) stk top, q)) rfl ?_
          refine RQ.if2 (a := s) (b := (-11)) rfl rfl rfl rfl (by omega) (by omega) (fun _ => ?_) (fun (q : ¬ s = (-11)) => absurd (show s = (-11) from by omega) q)
          refine RQ.seg 1 (pc' := 133) (L' := [some (.ref c), some (.ref l), some (.int (iI i)), some (.int (iI s)), e4, e5]) (st' := [.ref c]) (g1 := (cg h c a b (cs.length : Int) stk top, q)) rfl ?_
          refine RQ.callV rfl rfl rfl (cg_c hC) rfl rfl (CallR.up (d := 1) (x_pop (d := 0) hC (v := v1) (by omega) (by rw [show top - 1 = 0 by omega]; exact hS.1)) (by omega)) ?_
          refine RQ.if1 (a := v1) rfl rfl rfl (by omega) (fun (q : v1 ≠ 0) => absurd q (show ¬ v1 ≠ 0 from by omega)) (fun _ => ?_)
          refine RQ.seg 2 (pc' := 141) (L' := [some (.ref c), some (.ref l), some (.int (iI i)), some (.int (iI s)), e4, e5]) (st' := [.int (iI i), .ref c]) (g1 := (cg h c a b (cs.length : Int) stk (top - 1), q)) rfl ?_
          have hcl := cnd_r (s :: r)
          have hlr : ((s :: r).length : Int) = (cs.length : Int) - i := by rw [← hd, List.length_drop]; omega
          refine RQ.callV rfl rfl rfl (cg_c hC) rfl rfl (CallR.up (d := 1) (x_cend (d := 0) hC hst hn hb h0 (by omega) hd) (by omega)) ?_
          refine RQ.seg 3 (pc' := 7) (L' := [some (.ref c), some (.ref l), some (.int ((iI (i + ((cnd (s :: r) : Nat) : Int))) + (iI 1))), some (.int (iI s)), e4, e5]) (st' := []) (g1 := (cg h c a b (cs.length : Int) stk (top - 1), q)) rfl ?_
          refine RQ.to (L' := [some (.ref c), some (.ref l), some (.int (iI (i + ((cnd (s :: r) : Nat) : Int) + 1))), some (.int (iI s)), e4, e5]) (st' := []) (by simp only [iI_add, iI_sub, iI_mul, iI_neg]) rfl ?_
          rw [ew, decide_eq_true c3, wo_tr, show r.drop (cnd r + 1) = (s :: r).drop (cnd (s :: r) + 1) by rw [show cnd (s :: r) = cnd r + 1 from if_neg c1]; rfl]
          refine x_wo_l hC hst hn hb hl1 hl2 hlt hL m ((s :: r).drop (cnd (s :: r) + 1)) _ [] [] stk _ _ _ _ ?_ (by omega) (by omega) ?_ (wty_drop (s :: r) _ hw) trivial trivial (by show top - 1 = ((0 : Nat) : Int); omega) (by show ((0 : Nat) : Int) ≤ 64; omega)
          · rw [List.length_drop, List.length_cons]; omega
          · rw [show i + ((cnd (s :: r) : Nat) : Int) + 1 = i + ((cnd (s :: r) + 1 : Nat) : Int) by omega]; exact drop_k h0 hd
        · skip
          refine RQ.seg 2 (pc' := 9) (L' := [some (.ref c), some (.ref l), some (.int (iI i)), e3, e4, e5]) (st' := [.ref c, .int (iI i)]) (g1 := (cg h c a b (cs.length : Int) stk top, q)) rfl ?_
          refine RQ.getfG rfl rfl (cg_c hC) rfl rfl ?_
          refine RQ.if2 (a := i) (b := (cs.length : Int)) rfl rfl rfl rfl (by omega) (by omega) (fun (q : (cs.length : Int) ≤ i) => absurd q (show ¬ (cs.length : Int) ≤ i from by omega)) (fun _ => ?_)
          refine RQ.seg 1 (pc' := 16) (L' := [some (.ref c), some (.ref l), some (.int (iI i)), e3, e4, e5]) (st' := [.ref c]) (g1 := (cg h c a b (cs.length : Int) stk top, q)) rfl ?_
          refine RQ.getfG rfl rfl (cg_c hC) rfl rfl ?_
          refine RQ.seg 1 (pc' := 20) (L' := [some (.ref c), some (.ref l), some (.int (iI i)), e3, e4, e5]) (st' := [.int (iI i), .ref b]) (g1 := (cg h c a b (cs.length : Int) stk top, q)) rfl ?_
          refine RQ.ialdv (z := i) (v := s) rfl rfl (cg_b hC) (by omega) (by omega) hs0 ?_
          refine RQ.seg 3 (pc' := 25) (L' := [some (.ref c), some (.ref l), some (.int (iI i)), some (.int (iI s)), e4, e5]) (st' := [.int (iI (-12)), .int (iI s)]) (g1 := (cg h c a b (cs.length : Int) stk top, q)) rfl ?_
          refine RQ.if2 (a := s) (b := (-12)) rfl rfl rfl rfl (by omega) (by omega) (fun _ => ?_) (fun (q : ¬ s ≠ (-12)) => absurd (show s ≠ (-12) from by omega) q)
          refine RQ.seg 1 (pc' := 34) (L' := [some (.ref c), some (.ref l), some (.int (iI i)), some (.int (iI s)), e4, e5]) (st' := [.int (iI s)]) (g1 := (cg h c a b (cs.length : Int) stk top, q)) rfl ?_
          refine RQ.if1 (a := s) rfl rfl rfl (by omega) (fun _ => ?_) (fun (q : ¬ s < 0) => absurd (show s < 0 from by omega) q)
          refine RQ.seg 2 (pc' := 48) (L' := [some (.ref c), some (.ref l), some (.int (iI i)), some (.int (iI s)), e4, e5]) (st' := [.int (iI (-13)), .int (iI s)]) (g1 := (cg h c a b (cs.length : Int) stk top, q)) rfl ?_
          refine RQ.if2 (a := s) (b := (-13)) rfl rfl rfl rfl (by omega) (by omega) (fun _ => ?_) (fun (q : ¬ (-13) < s) => absurd (show (-13) < s from by omega) q)
          refine RQ.seg 2 (pc' := 80) (L' := [some (.ref c), some (.ref l), some (.int (iI i)), some (.int (iI s)), e4, e5]) (st' := [.int (iI (-8)), .int (iI s)]) (g1 := (cg h c a b (cs.length : Int) stk top, q)) rfl ?_
          refine RQ.if2 (a := s) (b := (-8)) rfl rfl rfl rfl (by omega) (by omega) (fun _ => ?_) (fun (q : ¬ s ≠ (-8)) => absurd (show s ≠ (-8) from by omega) q)
          refine RQ.seg 2 (pc' := 99) (L' := [some (.ref c), some (.ref l), some (.int (iI i)), some (.int (iI s)), e4, e5]) (st' := [.int (iI (-11)), .int (iI s)]) (g1 := (cg h c a b (cs.length : Int) stk top, q)) rfl ?_
          refine RQ.if2 (a := s) (b := (-11)) rfl rfl rfl rfl (by omega) (by omega) (fun _ => ?_) (fun (q : ¬ s = (-11)) => absurd (show s = (-11) from by omega) q)
          refine RQ.seg 1 (pc' := 133) (L' := [some (.ref c), some (.ref l), some (.int (iI i)), some (.int (iI s)), e4, e5]) (st' := [.ref c]) (g1 := (cg h c a b (cs.length : Int) stk top, q)) rfl ?_
          refine RQ.callV rfl rfl rfl (cg_c hC) rfl rfl (CallR.up (d := 1) (x_pop (d := 0) hC (v := v1) (by omega) (by rw [show top - 1 = 0 by omega]; exact hS.1)) (by omega)) ?_
          refine RQ.if1 (a := v1) rfl rfl rfl (by omega) (fun _ => ?_) (fun (q : ¬ v1 ≠ 0) => absurd (show v1 ≠ 0 from by omega) q)
          refine RQ.seg 2 (pc' := 7) (L' := [some (.ref c), some (.ref l), some (.int ((iI i) + (iI 1))), some (.int (iI s)), e4, e5]) (st' := []) (g1 := (cg h c a b (cs.length : Int) stk (top - 1), q)) rfl ?_
          refine RQ.to (L' := [some (.ref c), some (.ref l), some (.int (iI (i + 1))), some (.int (iI s)), e4, e5]) (st' := []) (by simp only [iI_add, iI_sub, iI_mul, iI_neg]) rfl ?_
          rw [ew, decide_eq_false c3]
          exact x_wo_l hC hst hn hb hl1 hl2 hlt hL m r (i + 1) [] [] stk _ _ _ _ hm2 (by omega) (by omega) e3_ hw3 trivial trivial (by show top - 1 = ((0 : Nat) : Int); omega) (by show ((0 : Nat) : Int) ≤ 64; omega)
      · rw [if_neg c2] at hw2
        obtain ⟨t, hty, hw3⟩ := hw2
        have hVl := hV.len
        rw [wo_st c1 c2]
        rcases ty1_c hty with ⟨cs1, cs2, rfl⟩ | ⟨cs1, u, rfl, rfl⟩ | ⟨cs1, u, rfl, rfl⟩ | ⟨cs1, u, rfl, rfl⟩ | ⟨cs1, u, rfl, rfl⟩
        · by_cases c4 : 0 ≤ s
          · rw [ev1_n c4]
            refine RQ.seg 2 (pc' := 9) (L' := [some (.ref c), some (.ref l), some (.int (iI i)), e3, e4, e5]) (st' := [.ref c, .int (iI i)]) (g1 := (cg h c a b (cs.length : Int) stk top, q)) rfl ?_
            refine RQ.getfG rfl rfl (cg_c hC) rfl rfl ?_
            refine RQ.if2 (a := i) (b := (cs.length : Int)) rfl rfl rfl rfl (by omega) (by omega) (fun (q : (cs.length : Int) ≤ i) => absurd q (show ¬ (cs.length : Int) ≤ i from by omega)) (fun _ => ?_)
            refine RQ.seg 1 (pc' := 16) (L' := [some (.ref c), some (.ref l), some (.int (iI i)), e3, e4, e5]) (st' := [.ref c]) (g1 := (cg h c a b (cs.length : Int) stk top, q)) rfl ?_
            refine RQ.getfG rfl rfl (cg_c hC) rfl rfl ?_
            refine RQ.seg 1 (pc' := 20) (L' := [some (.ref c), some (.ref l), some (.int (iI i)), e3, e4, e5]) (st' := [.int (iI i), .ref b]) (g1 := (cg h c a b (cs.length : Int) stk top, q)) rfl ?_
            refine RQ.ialdv (z := i) (v := s) rfl rfl (cg_b hC) (by omega) (by omega) hs0 ?_
            refine RQ.seg 3 (pc' := 25) (L' := [some (.ref c), some (.ref l), some (.int (iI i)), some (.int (iI s)), e4, e5]) (st' := [.int (iI (-12)), .int (iI s)]) (g1 := (cg h c a b (cs.length : Int) stk top, q)) rfl ?_
            refine RQ.if2 (a := s) (b := (-12)) rfl rfl rfl rfl (by omega) (by omega) (fun _ => ?_) (fun (q : ¬ s ≠ (-12)) => absurd (show s ≠ (-12) from by omega) q)
            refine RQ.seg 1 (pc' := 34) (L' := [some (.ref c), some (.ref l), some (.int (iI i)), some (.int (iI s)), e4, e5]) (st' := [.int (iI s)]) (g1 := (cg h c a b (cs.length : Int) stk top, q)) rfl ?_
            refine RQ.if1 (a := s) rfl rfl rfl (by omega) (fun (q : s < 0) => absurd q (show ¬ s < 0 from by omega)) (fun _ => ?_)
            refine RQ.seg 2 (pc' := 39) (L' := [some (.ref c), some (.ref l), some (.int (iI i)), some (.int (iI s)), e4, e5]) (st' := [.int (iI s), .ref c]) (g1 := (cg h c a b (cs.length : Int) stk top, q)) rfl ?_
            refine RQ.callV rfl rfl rfl (cg_c hC) rfl rfl (CallR.up (d := 1) (x_push (d := 0) hC (v := s) (by omega)) (by omega)) ?_
            refine RQ.seg 3 (pc' := 7) (L' := [some (.ref c), some (.ref l), some (.int ((iI i) + (iI 1))), some (.int (iI s)), e4, e5]) (st' := []) (g1 := (cg h c a b (cs.length : Int) (usz stk top s) (top + 1), q)) rfl ?_
            refine RQ.to (L' := [some (.ref c), some (.ref l), some (.int (iI (i + 1))), some (.int (iI s)), e4, e5]) (st' := []) (by simp only [iI_add, iI_sub, iI_mul, iI_neg]) rfl ?_
            rw [htop]
            exact x_wo_l hC hst hn hb hl1 hl2 hlt hL m r (i + 1) _ _ _ _ _ _ _ hm2 (by omega) (by omega) e3_ hw3 ⟨by omega, fun z => absurd z (by decide), hV⟩ hS.pu (by rw [List.length_cons]; omega) (by rw [List.length_cons]; omega)
          · rw [ev1_l (by omega)]
            have hLk := hL (-13 - s) (by omega) (by omega)
            refine RQ.seg 2 (pc' := 9) (L' := [some (.ref c), some (.ref l), some (.int (iI i)), e3, e4, e5]) (st' := [.ref c, .int (iI i)]) (g1 := (cg h c a b (cs.length : Int) stk top, q)) rfl ?_
            refine RQ.getfG rfl rfl (cg_c hC) rfl rfl ?_
            refine RQ.if2 (a := i) (b := (cs.length : Int)) rfl rfl rfl rfl (by omega) (by omega) (fun (q : (cs.length : Int) ≤ i) => absurd q (show ¬ (cs.length : Int) ≤ i from by omega)) (fun _ => ?_)
            refine RQ.seg 1 (pc' := 16) (L' := [some (.ref c), some (.ref l), some (.int (iI i)), e3, e4, e5]) (st' := [.ref c]) (g1 := (cg h c a b (cs.length : Int) stk top, q)) rfl ?_
            refine RQ.getfG rfl rfl (cg_c hC) rfl rfl ?_
            refine RQ.seg 1 (pc' := 20) (L' := [some (.ref c), some (.ref l), some (.int (iI i)), e3, e4, e5]) (st' := [.int (iI i), .ref b]) (g1 := (cg h c a b (cs.length : Int) stk top, q)) rfl ?_
            refine RQ.ialdv (z := i) (v := s) rfl rfl (cg_b hC) (by omega) (by omega) hs0 ?_
            refine RQ.seg 3 (pc' := 25) (L' := [some (.ref c), some (.ref l), some (.int (iI i)), some (.int (iI s)), e4, e5]) (st' := [.int (iI (-12)), .int (iI s)]) (g1 := (cg h c a b (cs.length : Int) stk top, q)) rfl ?_
            refine RQ.if2 (a := s) (b := (-12)) rfl rfl rfl rfl (by omega) (by omega) (fun _ => ?_) (fun (q : ¬ s ≠ (-12)) => absurd (show s ≠ (-12) from by omega) q)
            refine RQ.seg 1 (pc' := 34) (L' := [some (.ref c), some (.ref l), some (.int (iI i)), some (.int (iI s)), e4, e5]) (st' := [.int (iI s)]) (g1 := (cg h c a b (cs.length : Int) stk top, q)) rfl ?_
            refine RQ.if1 (a := s) rfl rfl rfl (by omega) (fun _ => ?_) (fun (q : ¬ s < 0) => absurd (show s < 0 from by omega) q)
            refine RQ.seg 2 (pc' := 48) (L' := [some (.ref c), some (.ref l), some (.int (iI i)), some (.int (iI s)), e4, e5]) (st' := [.int (iI (-13)), .int (iI s)]) (g1 := (cg h c a b (cs.length : Int) stk top, q)) rfl ?_
            refine RQ.if2 (a := s) (b := (-13)) rfl rfl rfl rfl (by omega) (by omega) (fun (q : (-13) < s) => absurd q (show ¬ (-13) < s from by omega)) (fun _ => ?_)
            refine RQ.seg 5 (pc' := 57) (L' := [some (.ref c), some (.ref l), some (.int (iI i)), some (.int (iI s)), e4, e5]) (st' := [.ref l, .int ((iI (-13)) - (iI s)), .ref c]) (g1 := (cg h c a b (cs.length : Int) stk top, q)) rfl ?_
            refine RQ.alen rfl ((cg_l hl1 hl2).trans hlt) ?_
            refine RQ.if2 (a := ((-13) - s)) (b := 6) rfl rfl (by simp only [iI_add, iI_sub, iI_mul, iI_neg]) rfl (by omega) (by omega) (fun (q : 6 ≤ (-13) - s) => absurd q (show ¬ 6 ≤ (-13) - s from by omega)) (fun _ => ?_)
            refine RQ.seg 4 (pc' := 66) (L' := [some (.ref c), some (.ref l), some (.int (iI i)), some (.int (iI s)), e4, e5]) (st' := [.int ((iI (-13)) - (iI s)), .ref l, .ref c]) (g1 := (cg h c a b (cs.length : Int) stk top, q)) rfl ?_
            refine RQ.iald (z := ((-13) - s)) rfl (by simp only [iI_add, iI_sub, iI_mul, iI_neg]) ((cg_l hl1 hl2).trans hlt) (by omega) (by decide) ?_
            refine RQ.seg 1 (pc' := 71) (L' := [some (.ref c), some (.ref l), some (.int (iI i)), some (.int (iI s)), e4, e5]) (st' := [.int (iI (lt ((-13) - s))), .ref c]) (g1 := (cg h c a b (cs.length : Int) stk top, q)) rfl ?_
            refine RQ.callV rfl rfl rfl (cg_c hC) rfl rfl (CallR.up (d := 1) (x_push (d := 0) hC (v := lt ((-13) - s)) (by omega)) (by omega)) ?_
            refine RQ.seg 3 (pc' := 7) (L' := [some (.ref c), some (.ref l), some (.int ((iI i) + (iI 1))), some (.int (iI s)), e4, e5]) (st' := []) (g1 := (cg h c a b (cs.length : Int) (usz stk top (lt ((-13) - s))) (top + 1), q)) rfl ?_
            refine RQ.to (L' := [some (.ref c), some (.ref l), some (.int (iI (i + 1))), some (.int (iI s)), e4, e5]) (st' := []) (by simp only [iI_add, iI_sub, iI_mul, iI_neg]) rfl ?_
            rw [htop]
            exact x_wo_l hC hst hn hb hl1 hl2 hlt hL m r (i + 1) _ _ _ _ _ _ _ hm2 (by omega) (by omega) e3_ hw3 ⟨by omega, fun z => absurd z (by decide), hV⟩ hS.pu (by rw [List.length_cons]; omega) (by rw [List.length_cons]; omega)
        · obtain ⟨v1, s2, rfl, rv1, bv1, hV2⟩ := hV.c
          have b01 := bv1 rfl
          have hl9 : ((v1 :: s2).length : Int) = (s2.length : Int) + 1 := rfl
          rw [show ev1 lt s (v1 :: s2) = (1 - v1) :: s2 by rw [cs1]; rfl]
          refine RQ.seg 2 (pc' := 9) (L' := [some (.ref c), some (.ref l), some (.int (iI i)), e3, e4, e5]) (st' := [.ref c, .int (iI i)]) (g1 := (cg h c a b (cs.length : Int) stk top, q)) rfl ?_
          refine RQ.getfG rfl rfl (cg_c hC) rfl rfl ?_
          refine RQ.if2 (a := i) (b := (cs.length : Int)) rfl rfl rfl rfl (by omega) (by omega) (fun (q : (cs.length : Int) ≤ i) => absurd q (show ¬ (cs.length : Int) ≤ i from by omega)) (fun _ => ?_)
          refine RQ.seg 1 (pc' := 16) (L' := [some (.ref c), some (.ref l), some (.int (iI i)), e3, e4, e5]) (st' := [.ref c]) (g1 := (cg h c a b (cs.length : Int) stk top, q)) rfl ?_
          refine RQ.getfG rfl rfl (cg_c hC) rfl rfl ?_
          refine RQ.seg 1 (pc' := 20) (L' := [some (.ref c), some (.ref l), some (.int (iI i)), e3, e4, e5]) (st' := [.int (iI i), .ref b]) (g1 := (cg h c a b (cs.length : Int) stk top, q)) rfl ?_
          refine RQ.ialdv (z := i) (v := s) rfl rfl (cg_b hC) (by omega) (by omega) hs0 ?_
          refine RQ.seg 3 (pc' := 25) (L' := [some (.ref c), some (.ref l), some (.int (iI i)), some (.int (iI s)), e4, e5]) (st' := [.int (iI (-12)), .int (iI s)]) (g1 := (cg h c a b (cs.length : Int) stk top, q)) rfl ?_
          refine RQ.if2 (a := s) (b := (-12)) rfl rfl rfl rfl (by omega) (by omega) (fun _ => ?_) (fun (q : ¬ s ≠ (-12)) => absurd (show s ≠ (-12) from by omega) q)
          refine RQ.seg 1 (pc' := 34) (L' := [some (.ref c), some (.ref l), some (.int (iI i)), some (.int (iI s)), e4, e5]) (st' := [.int (iI s)]) (g1 := (cg h c a b (cs.length : Int) stk top, q)) rfl ?_
          refine RQ.if1 (a := s) rfl rfl rfl (by omega) (fun _ => ?_) (fun (q : ¬ s < 0) => absurd (show s < 0 from by omega) q)
          refine RQ.seg 2 (pc' := 48) (L' := [some (.ref c), some (.ref l), some (.int (iI i)), some (.int (iI s)), e4, e5]) (st' := [.int (iI (-13)), .int (iI s)]) (g1 := (cg h c a b (cs.length : Int) stk top, q)) rfl ?_
          refine RQ.if2 (a := s) (b := (-13)) rfl rfl rfl rfl (by omega) (by omega) (fun _ => ?_) (fun (q : ¬ (-13) < s) => absurd (show (-13) < s from by omega) q)
          refine RQ.seg 2 (pc' := 80) (L' := [some (.ref c), some (.ref l), some (.int (iI i)), some (.int (iI s)), e4, e5]) (st' := [.int (iI (-8)), .int (iI s)]) (g1 := (cg h c a b (cs.length : Int) stk top, q)) rfl ?_
          refine RQ.if2 (a := s) (b := (-8)) rfl rfl rfl rfl (by omega) (by omega) (fun (q : s ≠ (-8)) => absurd q (show ¬ s ≠ (-8) from by omega)) (fun _ => ?_)
          refine RQ.seg 3 (pc' := 86) (L' := [some (.ref c), some (.ref l), some (.int (iI i)), some (.int (iI s)), e4, e5]) (st' := [.ref c, .int (iI 1), .ref c]) (g1 := (cg h c a b (cs.length : Int) stk top, q)) rfl ?_
          refine RQ.callV rfl rfl rfl (cg_c hC) rfl rfl (CallR.up (d := 1) (x_pop (d := 0) hC (v := v1) (by omega) (by rw [show top - 1 = (s2.length : Int) by omega]; exact hS.1)) (by omega)) ?_
          refine RQ.seg 1 (pc' := 90) (L' := [some (.ref c), some (.ref l), some (.int (iI i)), some (.int (iI s)), e4, e5]) (st' := [.int ((iI 1) - (iI v1)), .ref c]) (g1 := (cg h c a b (cs.length : Int) stk (top - 1), q)) rfl ?_
          refine RQ.to (L' := [some (.ref c), some (.ref l), some (.int (iI i)), some (.int (iI s)), e4, e5]) (st' := [.int (iI (1 - v1)), .ref c]) rfl (by simp only [iI_add, iI_sub, iI_mul, iI_neg]) ?_
          refine RQ.callV rfl rfl rfl (cg_c hC) rfl rfl (CallR.up (d := 1) (x_push (d := 0) hC (v := 1 - v1) (by omega)) (by omega)) ?_
          refine RQ.seg 3 (pc' := 7) (L' := [some (.ref c), some (.ref l), some (.int ((iI i) + (iI 1))), some (.int (iI s)), e4, e5]) (st' := []) (g1 := (cg h c a b (cs.length : Int) (usz stk (top - 1) (1 - v1)) (top - 1 + 1), q)) rfl ?_
          refine RQ.to (L' := [some (.ref c), some (.ref l), some (.int (iI (i + 1))), some (.int (iI s)), e4, e5]) (st' := []) (by simp only [iI_add, iI_sub, iI_mul, iI_neg]) rfl ?_
          rw [show top - 1 = (s2.length : Int) by omega]
          exact x_wo_l hC hst hn hb hl1 hl2 hlt hL m r (i + 1) _ _ _ _ _ _ _ hm2 (by omega) (by omega) e3_ hw3 ⟨by omega, fun _ => by omega, hV2⟩ (SkR.pu hS.2) (by rw [List.length_cons]; omega) (by rw [List.length_cons]; omega)
        · obtain ⟨v1, s2, rfl, rv1, bv1, hV2⟩ := hV.c
          obtain ⟨v2, s3, rfl, rv2, bv2, hV3⟩ := hV2.c
          have hl9 : ((v1 :: v2 :: s3).length : Int) = (s3.length : Int) + 2 := rfl
          have hl8 : ((v2 :: s3).length : Int) = (s3.length : Int) + 1 := rfl
          rw [ev1_j (by omega), jn_jv]
          have hwr := wi_r (jv s v2 v1)
          have h9 : s ≤ -9 → (v2 = 0 ∨ v2 = 1) ∧ (v1 = 0 ∨ v1 = 1) := fun z => ⟨bv2 rfl, bv1 rfl⟩
          have hjb : wi (jv s v2 v1) = 0 ∨ wi (jv s v2 v1) = 1 := jv_b (by omega)
          refine RQ.seg 2 (pc' := 9) (L' := [some (.ref c), some (.ref l), some (.int (iI i)), e3, e4, e5]) (st' := [.ref c, .int (iI i)]) (g1 := (cg h c a b (cs.length : Int) stk top, q)) rfl ?_
          refine RQ.getfG rfl rfl (cg_c hC) rfl rfl ?_
          refine RQ.if2 (a := i) (b := (cs.length : Int)) rfl rfl rfl rfl (by omega) (by omega) (fun (q : (cs.length : Int) ≤ i) => absurd q (show ¬ (cs.length : Int) ≤ i from by omega)) (fun _ => ?_)
          refine RQ.seg 1 (pc' := 16) (L' := [some (.ref c), some (.ref l), some (.int (iI i)), e3, e4, e5]) (st' := [.ref c]) (g1 := (cg h c a b (cs.length : Int) stk top, q)) rfl ?_
          refine RQ.getfG rfl rfl (cg_c hC) rfl rfl ?_
          refine RQ.seg 1 (pc' := 20) (L' := [some (.ref c), some (.ref l), some (.int (iI i)), e3, e4, e5]) (st' := [.int (iI i), .ref b]) (g1 := (cg h c a b (cs.length : Int) stk top, q)) rfl ?_
          refine RQ.ialdv (z := i) (v := s) rfl rfl (cg_b hC) (by omega) (by omega) hs0 ?_
          refine RQ.seg 3 (pc' := 25) (L' := [some (.ref c), some (.ref l), some (.int (iI i)), some (.int (iI s)), e4, e5]) (st' := [.int (iI (-12)), .int (iI s)]) (g1 := (cg h c a b (cs.length : Int) stk top, q)) rfl ?_
          refine RQ.if2 (a := s) (b := (-12)) rfl rfl rfl rfl (by omega) (by omega) (fun _ => ?_) (fun (q : ¬ s ≠ (-12)) => absurd (show s ≠ (-12) from by omega) q)
          refine RQ.seg 1 (pc' := 34) (L' := [some (.ref c), some (.ref l), some (.int (iI i)), some (.int (iI s)), e4, e5]) (st' := [.int (iI s)]) (g1 := (cg h c a b (cs.length : Int) stk top, q)) rfl ?_
          refine RQ.if1 (a := s) rfl rfl rfl (by omega) (fun _ => ?_) (fun (q : ¬ s < 0) => absurd (show s < 0 from by omega) q)
          refine RQ.seg 2 (pc' := 48) (L' := [some (.ref c), some (.ref l), some (.int (iI i)), some (.int (iI s)), e4, e5]) (st' := [.int (iI (-13)), .int (iI s)]) (g1 := (cg h c a b (cs.length : Int) stk top, q)) rfl ?_
          refine RQ.if2 (a := s) (b := (-13)) rfl rfl rfl rfl (by omega) (by omega) (fun _ => ?_) (fun (q : ¬ (-13) < s) => absurd (show (-13) < s from by omega) q)
          refine RQ.seg 2 (pc' := 80) (L' := [some (.ref c), some (.ref l), some (.int (iI i)), some (.int (iI s)), e4, e5]) (st' := [.int (iI (-8)), .int (iI s)]) (g1 := (cg h c a b (cs.length : Int) stk top, q)) rfl ?_
          refine RQ.if2 (a := s) (b := (-8)) rfl rfl rfl rfl (by omega) (by omega) (fun _ => ?_) (fun (q : ¬ s ≠ (-8)) => absurd (show s ≠ (-8) from by omega) q)
          refine RQ.seg 2 (pc' := 99) (L' := [some (.ref c), some (.ref l), some (.int (iI i)), some (.int (iI s)), e4, e5]) (st' := [.int (iI (-11)), .int (iI s)]) (g1 := (cg h c a b (cs.length : Int) stk top, q)) rfl ?_
          refine RQ.if2 (a := s) (b := (-11)) rfl rfl rfl rfl (by omega) (by omega) (fun (q : s = (-11)) => absurd q (show ¬ s = (-11) from by omega)) (fun _ => ?_)
          refine RQ.seg 1 (pc' := 103) (L' := [some (.ref c), some (.ref l), some (.int (iI i)), some (.int (iI s)), e4, e5]) (st' := [.ref c]) (g1 := (cg h c a b (cs.length : Int) stk top, q)) rfl ?_
          refine RQ.callV rfl rfl rfl (cg_c hC) rfl rfl (CallR.up (d := 1) (x_pop (d := 0) hC (v := v1) (by omega) (by rw [show top - 1 = (((v2 :: s3).length : Nat) : Int) by omega]; exact hS.1)) (by omega)) ?_
          refine RQ.seg 2 (pc' := 109) (L' := [some (.ref c), some (.ref l), some (.int (iI i)), some (.int (iI s)), some (.int (iI v1)), e5]) (st' := [.ref c]) (g1 := (cg h c a b (cs.length : Int) stk (top - 1), q)) rfl ?_
          refine RQ.callV rfl rfl rfl (cg_c hC) rfl rfl (CallR.up (d := 1) (x_pop (d := 0) hC (v := v2) (by omega) (by rw [show top - 1 - 1 = (s3.length : Int) by omega]; exact hS.2.1)) (by omega)) ?_
          refine RQ.seg 5 (pc' := 120) (L' := [some (.ref c), some (.ref l), some (.int (iI i)), some (.int (iI s)), some (.int (iI v1)), some (.int (iI v2))]) (st' := [.int (iI v1), .int (iI v2), .int (iI s), .ref c]) (g1 := (cg h c a b (cs.length : Int) stk (top - 1 - 1), q)) rfl ?_
          have hjr := jv_r (s := s) (l := v2) (r := v1) rv2 rv1
          refine RQ.call rfl rfl (CallR.up (d := 1) (x_jnby (d := 0) (s := s) (l := v2) (r := v1) (by omega) rv2 rv1 h9) (by omega)) ?_
          refine RQ.call rfl rfl (CallR.up (d := 2) (x_within (d := 0) (v := jv s v2 v1) (by omega)) (by omega)) ?_
          refine RQ.callV rfl rfl rfl (cg_c hC) rfl rfl (CallR.up (d := 1) (x_push (d := 0) hC (v := wi (jv s v2 v1)) (by omega)) (by omega)) ?_
          refine RQ.seg 3 (pc' := 7) (L' := [some (.ref c), some (.ref l), some (.int ((iI i) + (iI 1))), some (.int (iI s)), some (.int (iI v1)), some (.int (iI v2))]) (st' := []) (g1 := (cg h c a b (cs.length : Int) (usz stk (top - 1 - 1) (wi (jv s v2 v1))) (top - 1 - 1 + 1), q)) rfl ?_
          refine RQ.to (L' := [some (.ref c), some (.ref l), some (.int (iI (i + 1))), some (.int (iI s)), some (.int (iI v1)), some (.int (iI v2))]) (st' := []) (by simp only [iI_add, iI_sub, iI_mul, iI_neg]) rfl ?_
          rw [show top - 1 - 1 = (s3.length : Int) by omega]
          exact x_wo_l hC hst hn hb hl1 hl2 hlt hL m r (i + 1) _ _ _ _ _ _ _ hm2 (by omega) (by omega) e3_ hw3 ⟨hwr, fun _ => hjb, hV3⟩ (SkR.pu hS.2.2) (by rw [List.length_cons]; omega) (by rw [List.length_cons]; omega)
        · obtain ⟨v1, s2, rfl, rv1, bv1, hV2⟩ := hV.c
          obtain ⟨v2, s3, rfl, rv2, bv2, hV3⟩ := hV2.c
          have hl9 : ((v1 :: v2 :: s3).length : Int) = (s3.length : Int) + 2 := rfl
          have hl8 : ((v2 :: s3).length : Int) = (s3.length : Int) + 1 := rfl
          rw [ev1_j (by omega), jn_jv]
          have hwr := wi_r (jv s v2 v1)
          have h9 : s ≤ -9 → (v2 = 0 ∨ v2 = 1) ∧ (v1 = 0 ∨ v1 = 1) := fun z => absurd z (by omega)
          refine RQ.seg 2 (pc' := 9) (L' := [some (.ref c), some (.ref l), some (.int (iI i)), e3, e4, e5]) (st' := [.ref c, .int (iI i)]) (g1 := (cg h c a b (cs.length : Int) stk top, q)) rfl ?_
          refine RQ.getfG rfl rfl (cg_c hC) rfl rfl ?_
          refine RQ.if2 (a := i) (b := (cs.length : Int)) rfl rfl rfl rfl (by omega) (by omega) (fun (q : (cs.length : Int) ≤ i) => absurd q (show ¬ (cs.length : Int) ≤ i from by omega)) (fun _ => ?_)
          refine RQ.seg 1 (pc' := 16) (L' := [some (.ref c), some (.ref l), some (.int (iI i)), e3, e4, e5]) (st' := [.ref c]) (g1 := (cg h c a b (cs.length : Int) stk top, q)) rfl ?_
          refine RQ.getfG rfl rfl (cg_c hC) rfl rfl ?_
          refine RQ.seg 1 (pc' := 20) (L' := [some (.ref c), some (.ref l), some (.int (iI i)), e3, e4, e5]) (st' := [.int (iI i), .ref b]) (g1 := (cg h c a b (cs.length : Int) stk top, q)) rfl ?_
          refine RQ.ialdv (z := i) (v := s) rfl rfl (cg_b hC) (by omega) (by omega) hs0 ?_
          refine RQ.seg 3 (pc' := 25) (L' := [some (.ref c), some (.ref l), some (.int (iI i)), some (.int (iI s)), e4, e5]) (st' := [.int (iI (-12)), .int (iI s)]) (g1 := (cg h c a b (cs.length : Int) stk top, q)) rfl ?_
          refine RQ.if2 (a := s) (b := (-12)) rfl rfl rfl rfl (by omega) (by omega) (fun _ => ?_) (fun (q : ¬ s ≠ (-12)) => absurd (show s ≠ (-12) from by omega) q)
          refine RQ.seg 1 (pc' := 34) (L' := [some (.ref c), some (.ref l), some (.int (iI i)), some (.int (iI s)), e4, e5]) (st' := [.int (iI s)]) (g1 := (cg h c a b (cs.length : Int) stk top, q)) rfl ?_
          refine RQ.if1 (a := s) rfl rfl rfl (by omega) (fun _ => ?_) (fun (q : ¬ s < 0) => absurd (show s < 0 from by omega) q)
          refine RQ.seg 2 (pc' := 48) (L' := [some (.ref c), some (.ref l), some (.int (iI i)), some (.int (iI s)), e4, e5]) (st' := [.int (iI (-13)), .int (iI s)]) (g1 := (cg h c a b (cs.length : Int) stk top, q)) rfl ?_
          refine RQ.if2 (a := s) (b := (-13)) rfl rfl rfl rfl (by omega) (by omega) (fun _ => ?_) (fun (q : ¬ (-13) < s) => absurd (show (-13) < s from by omega) q)
          refine RQ.seg 2 (pc' := 80) (L' := [some (.ref c), some (.ref l), some (.int (iI i)), some (.int (iI s)), e4, e5]) (st' := [.int (iI (-8)), .int (iI s)]) (g1 := (cg h c a b (cs.length : Int) stk top, q)) rfl ?_
          refine RQ.if2 (a := s) (b := (-8)) rfl rfl rfl rfl (by omega) (by omega) (fun _ => ?_) (fun (q : ¬ s ≠ (-8)) => absurd (show s ≠ (-8) from by omega) q)
          refine RQ.seg 2 (pc' := 99) (L' := [some (.ref c), some (.ref l), some (.int (iI i)), some (.int (iI s)), e4, e5]) (st' := [.int (iI (-11)), .int (iI s)]) (g1 := (cg h c a b (cs.length : Int) stk top, q)) rfl ?_
          refine RQ.if2 (a := s) (b := (-11)) rfl rfl rfl rfl (by omega) (by omega) (fun (q : s = (-11)) => absurd q (show ¬ s = (-11) from by omega)) (fun _ => ?_)
          refine RQ.seg 1 (pc' := 103) (L' := [some (.ref c), some (.ref l), some (.int (iI i)), some (.int (iI s)), e4, e5]) (st' := [.ref c]) (g1 := (cg h c a b (cs.length : Int) stk top, q)) rfl ?_
          refine RQ.callV rfl rfl rfl (cg_c hC) rfl rfl (CallR.up (d := 1) (x_pop (d := 0) hC (v := v1) (by omega) (by rw [show top - 1 = (((v2 :: s3).length : Nat) : Int) by omega]; exact hS.1)) (by omega)) ?_
          refine RQ.seg 2 (pc' := 109) (L' := [some (.ref c), some (.ref l), some (.int (iI i)), some (.int (iI s)), some (.int (iI v1)), e5]) (st' := [.ref c]) (g1 := (cg h c a b (cs.length : Int) stk (top - 1), q)) rfl ?_
          refine RQ.callV rfl rfl rfl (cg_c hC) rfl rfl (CallR.up (d := 1) (x_pop (d := 0) hC (v := v2) (by omega) (by rw [show top - 1 - 1 = (s3.length : Int) by omega]; exact hS.2.1)) (by omega)) ?_
          refine RQ.seg 5 (pc' := 120) (L' := [some (.ref c), some (.ref l), some (.int (iI i)), some (.int (iI s)), some (.int (iI v1)), some (.int (iI v2))]) (st' := [.int (iI v1), .int (iI v2), .int (iI s), .ref c]) (g1 := (cg h c a b (cs.length : Int) stk (top - 1 - 1), q)) rfl ?_
          have hjr := jv_r (s := s) (l := v2) (r := v1) rv2 rv1
          refine RQ.call rfl rfl (CallR.up (d := 1) (x_jnby (d := 0) (s := s) (l := v2) (r := v1) (by omega) rv2 rv1 h9) (by omega)) ?_
          refine RQ.call rfl rfl (CallR.up (d := 2) (x_within (d := 0) (v := jv s v2 v1) (by omega)) (by omega)) ?_
          refine RQ.callV rfl rfl rfl (cg_c hC) rfl rfl (CallR.up (d := 1) (x_push (d := 0) hC (v := wi (jv s v2 v1)) (by omega)) (by omega)) ?_
          refine RQ.seg 3 (pc' := 7) (L' := [some (.ref c), some (.ref l), some (.int ((iI i) + (iI 1))), some (.int (iI s)), some (.int (iI v1)), some (.int (iI v2))]) (st' := []) (g1 := (cg h c a b (cs.length : Int) (usz stk (top - 1 - 1) (wi (jv s v2 v1))) (top - 1 - 1 + 1), q)) rfl ?_
          refine RQ.to (L' := [some (.ref c), some (.ref l), some (.int (iI (i + 1))), some (.int (iI s)), some (.int (iI v1)), some (.int (iI v2))]) (st' := []) (by simp only [iI_add, iI_sub, iI_mul, iI_neg]) rfl ?_
          rw [show top - 1 - 1 = (s3.length : Int) by omega]
          exact x_wo_l hC hst hn hb hl1 hl2 hlt hL m r (i + 1) _ _ _ _ _ _ _ hm2 (by omega) (by omega) e3_ hw3 ⟨hwr, fun z => absurd z (by decide), hV3⟩ (SkR.pu hS.2.2) (by rw [List.length_cons]; omega) (by rw [List.length_cons]; omega)
        · obtain ⟨v1, s2, rfl, rv1, bv1, hV2⟩ := hV.c
          obtain ⟨v2, s3, rfl, rv2, bv2, hV3⟩ := hV2.c
          have hl9 : ((v1 :: v2 :: s3).length : Int) = (s3.length : Int) + 2 := rfl
          have hl8 : ((v2 :: s3).length : Int) = (s3.length : Int) + 1 := rfl
          rw [ev1_j (by omega), jn_jv]
          have hwr := wi_r (jv s v2 v1)
          have h9 : s ≤ -9 → (v2 = 0 ∨ v2 = 1) ∧ (v1 = 0 ∨ v1 = 1) := fun z => absurd z (by omega)
          have hjb : wi (jv s v2 v1) = 0 ∨ wi (jv s v2 v1) = 1 := jv_b (by omega)
          refine RQ.seg 2 (pc' := 9) (L' := [some (.ref c), some (.ref l), some (.int (iI i)), e3, e4, e5]) (st' := [.ref c, .int (iI i)]) (g1 := (cg h c a b (cs.length : Int) stk top, q)) rfl ?_
          refine RQ.getfG rfl rfl (cg_c hC) rfl rfl ?_
          refine RQ.if2 (a := i) (b := (cs.length : Int)) rfl rfl rfl rfl (by omega) (by omega) (fun (q : (cs.length : Int) ≤ i) => absurd q (show ¬ (cs.length : Int) ≤ i from by omega)) (fun _ => ?_)
          refine RQ.seg 1 (pc' := 16) (L' := [some (.ref c), some (.ref l), some (.int (iI i)), e3, e4, e5]) (st' := [.ref c]) (g1 := (cg h c a b (cs.length : Int) stk top, q)) rfl ?_
          refine RQ.getfG rfl rfl (cg_c hC) rfl rfl ?_
          refine RQ.seg 1 (pc' := 20) (L' := [some (.ref c), some (.ref l), some (.int (iI i)), e3, e4, e5]) (st' := [.int (iI i), .ref b]) (g1 := (cg h c a b (cs.length : Int) stk top, q)) rfl ?_
          refine RQ.ialdv (z := i) (v := s) rfl rfl (cg_b hC) (by omega) (by omega) hs0 ?_
          refine RQ.seg 3 (pc' := 25) (L' := [some (.ref c), some (.ref l), some (.int (iI i)), some (.int (iI s)), e4, e5]) (st' := [.int (iI (-12)), .int (iI s)]) (g1 := (cg h c a b (cs.length : Int) stk top, q)) rfl ?_
          refine RQ.if2 (a := s) (b := (-12)) rfl rfl rfl rfl (by omega) (by omega) (fun _ => ?_) (fun (q : ¬ s ≠ (-12)) => absurd (show s ≠ (-12) from by omega) q)
          refine RQ.seg 1 (pc' := 34) (L' := [some (.ref c), some (.ref l), some (.int (iI i)), some (.int (iI s)), e4, e5]) (st' := [.int (iI s)]) (g1 := (cg h c a b (cs.length : Int) stk top, q)) rfl ?_
          refine RQ.if1 (a := s) rfl rfl rfl (by omega) (fun _ => ?_) (fun (q : ¬ s < 0) => absurd (show s < 0 from by omega) q)
          refine RQ.seg 2 (pc' := 48) (L' := [some (.ref c), some (.ref l), some (.int (iI i)), some (.int (iI s)), e4, e5]) (st' := [.int (iI (-13)), .int (iI s)]) (g1 := (cg h c a b (cs.length : Int) stk top, q)) rfl ?_
          refine RQ.if2 (a := s) (b := (-13)) rfl rfl rfl rfl (by omega) (by omega) (fun _ => ?_) (fun (q : ¬ (-13) < s) => absurd (show (-13) < s from by omega) q)
          refine RQ.seg 2 (pc' := 80) (L' := [some (.ref c), some (.ref l), some (.int (iI i)), some (.int (iI s)), e4, e5]) (st' := [.int (iI (-8)), .int (iI s)]) (g1 := (cg h c a b (cs.length : Int) stk top, q)) rfl ?_
          refine RQ.if2 (a := s) (b := (-8)) rfl rfl rfl rfl (by omega) (by omega) (fun _ => ?_) (fun (q : ¬ s ≠ (-8)) => absurd (show s ≠ (-8) from by omega) q)
          refine RQ.seg 2 (pc' := 99) (L' := [some (.ref c), some (.ref l), some (.int (iI i)), some (.int (iI s)), e4, e5]) (st' := [.int (iI (-11)), .int (iI s)]) (g1 := (cg h c a b (cs.length : Int) stk top, q)) rfl ?_
          refine RQ.if2 (a := s) (b := (-11)) rfl rfl rfl rfl (by omega) (by omega) (fun (q : s = (-11)) => absurd q (show ¬ s = (-11) from by omega)) (fun _ => ?_)
          refine RQ.seg 1 (pc' := 103) (L' := [some (.ref c), some (.ref l), some (.int (iI i)), some (.int (iI s)), e4, e5]) (st' := [.ref c]) (g1 := (cg h c a b (cs.length : Int) stk top, q)) rfl ?_
          refine RQ.callV rfl rfl rfl (cg_c hC) rfl rfl (CallR.up (d := 1) (x_pop (d := 0) hC (v := v1) (by omega) (by rw [show top - 1 = (((v2 :: s3).length : Nat) : Int) by omega]; exact hS.1)) (by omega)) ?_
          refine RQ.seg 2 (pc' := 109) (L' := [some (.ref c), some (.ref l), some (.int (iI i)), some (.int (iI s)), some (.int (iI v1)), e5]) (st' := [.ref c]) (g1 := (cg h c a b (cs.length : Int) stk (top - 1), q)) rfl ?_
          refine RQ.callV rfl rfl rfl (cg_c hC) rfl rfl (CallR.up (d := 1) (x_pop (d := 0) hC (v := v2) (by omega) (by rw [show top - 1 - 1 = (s3.length : Int) by omega]; exact hS.2.1)) (by omega)) ?_
          refine RQ.seg 5 (pc' := 120) (L' := [some (.ref c), some (.ref l), some (.int (iI i)), some (.int (iI s)), some (.int (iI v1)), some (.int (iI v2))]) (st' := [.int (iI v1), .int (iI v2), .int (iI s), .ref c]) (g1 := (cg h c a b (cs.length : Int) stk (top - 1 - 1), q)) rfl ?_
          have hjr := jv_r (s := s) (l := v2) (r := v1) rv2 rv1
          refine RQ.call rfl rfl (CallR.up (d := 1) (x_jnby (d := 0) (s := s) (l := v2) (r := v1) (by omega) rv2 rv1 h9) (by omega)) ?_
          refine RQ.call rfl rfl (CallR.up (d := 2) (x_within (d := 0) (v := jv s v2 v1) (by omega)) (by omega)) ?_
          refine RQ.callV rfl rfl rfl (cg_c hC) rfl rfl (CallR.up (d := 1) (x_push (d := 0) hC (v := wi (jv s v2 v1)) (by omega)) (by omega)) ?_
          refine RQ.seg 3 (pc' := 7) (L' := [some (.ref c), some (.ref l), some (.int ((iI i) + (iI 1))), some (.int (iI s)), some (.int (iI v1)), some (.int (iI v2))]) (st' := []) (g1 := (cg h c a b (cs.length : Int) (usz stk (top - 1 - 1) (wi (jv s v2 v1))) (top - 1 - 1 + 1), q)) rfl ?_
          refine RQ.to (L' := [some (.ref c), some (.ref l), some (.int (iI (i + 1))), some (.int (iI s)), some (.int (iI v1)), some (.int (iI v2))]) (st' := []) (by simp only [iI_add, iI_sub, iI_mul, iI_neg]) rfl ?_
          rw [show top - 1 - 1 = (s3.length : Int) by omega]
          exact x_wo_l hC hst hn hb hl1 hl2 hlt hL m r (i + 1) _ _ _ _ _ _ _ hm2 (by omega) (by omega) e3_ hw3 ⟨hwr, fun _ => hjb, hV3⟩ (SkR.pu hS.2.2) (by rw [List.length_cons]; omega) (by rw [List.length_cons]; omega)
theorem x_worth {K : PK} {d : Nat} {h : List PO} {c a b n l : Nat} {stp : Int → Int} {q : Nat × Nat} (hC : CgOK h c a b n stp) {cs : List Int} (hst : LAt (fun v => v) stp cs) (hn : cs.length ≤ n) (hb : ∀ s ∈ cs, -18 ≤ s ∧ s ≤ 9999) {lt : Int → Int} (hl1 : l ≠ c) (hl2 : l ≠ a) (hlt : h[l]? = some (.inl (0, 6, .inl (zA lt)))) (hL : ∀ k, 0 ≤ k → k < 6 → -1000000 ≤ lt k ∧ lt k ≤ 1000000) {stk0 : Int → Int} {top0 : Int} (hw : wty cs []) : CQ K (d + 3) 3 [.ref c, .ref l] (cg h c a b (cs.length : Int) stk0 top0, q) (fun r g' => r = some (.int (iI (wo lt cs false []))) ∧ ∃ stk' top', g' = (cg h c a b (cs.length : Int) stk' top', q)) := by
  have hn9 : n ≤ 1000 := hC.2.2.2.2.2.2
  refine CQ.of (own := 0) (n := 6) (ini := false) (rt := (some .int)) (cd := cd3) (by decide +kernel) rfl (by decide +kernel) rfl (Nat.le_of_ble_eq_true rfl) ?_
  refine RQ.seg 2 (pc' := 2) (L' := [some (.ref c), some (.ref l), none, none, none, none]) (st' := [.int (iI 0), .ref c]) (g1 := (cg h c a b (cs.length : Int) stk0 top0, q)) rfl ?_
  refine RQ.putfG (g1 := (cg h c a b (cs.length : Int) stk0 0, q)) rfl rfl (cg_c hC) rfl rfl rfl rfl (congrArg (·, q) cg_sc) ?_
  refine RQ.seg 2 (pc' := 7) (L' := [some (.ref c), some (.ref l), some (.int (iI 0)), none, none, none]) (st' := []) (g1 := (cg h c a b (cs.length : Int) stk0 0, q)) rfl ?_
  exact x_wo_l hC hst hn hb hl1 hl2 hlt hL cs.length cs 0 [] [] stk0 0 _ _ _ (Nat.le_refl _) (by omega) (by omega) rfl hw trivial trivial rfl (by show ((0 : Nat) : Int) ≤ 64; omega)
