/-! what brigades choose by their rules: the class, by wip/tools -/
/-! what brigades choose by their rules: the class -/
def cct (P f : Int → Int) (w : Int) : Nat → Int
  | 0 => 0
  | n + 1 => cct P f w n + (if P n ≠ 99 ∧ f (P n) = w then 1 else 0)
theorem cct_r (P f : Int → Int) (w : Int) : ∀ n : Nat, 0 ≤ cct P f w n ∧ cct P f w n ≤ n
  | 0 => ⟨Int.le_refl _, Int.le_refl _⟩
  | n + 1 => by
    have := cct_r P f w n
    show 0 ≤ cct P f w n + (if P n ≠ 99 ∧ f (P n) = w then 1 else 0) ∧ cct P f w n + (if P n ≠ 99 ∧ f (P n) = w then 1 else 0) ≤ ((n + 1 : Nat) : Int)
    split <;> omega
def m10 (x : Int) : Int := x % 10
def d10 (x : Int) : Int := x / 10
def lts (W : Int → Int → Int) (P : Int → Int) (b p : Int) : Int → Int := fun k => if k = 0 then (if 0 ≤ p / 10 - W (p % 10) 0 then p / 10 - W (p % 10) 0 else -(p / 10 - W (p % 10) 0)) else if k = 1 then W (p % 10) 1 else if k = 2 then W (p % 10) 2 else if k = 3 then W (p % 10) 3 else if k = 4 then cct P m10 (p % 10) b.toNat else cct P d10 (p / 10) b.toNat
theorem lts_r {nw nb : Int} {W B : Int → Int → Int} (hF : FrOK nw nb W B) {P : Int → Int} {b p : Int} (hb : 0 ≤ b ∧ b < nb) (hp : 0 ≤ p ∧ p < 99) (hm : may nw W B b p) (k : Int) : -1000000 ≤ lts W P b p k ∧ lts W P b p k ≤ 1000000 := by
  have h0 := hF.1
  have hw := hF.2.1 (p % 10) (by omega) (by unfold may at hm; omega)
  have h1 := cct_r P m10 (p % 10) b.toNat
  have h2 := cct_r P d10 (p / 10) b.toNat
  unfold lts
  repeat' split
  all_goals omega
/-- the first of the greatest above nothing -/
def cup (g : Int → Int) (s : Int × Int) (p : Int) : Int × Int := if s.2 < g p then (p, g p) else s
def cst (g : Int → Int) (l : List Int) : Int × Int := l.foldl (cup g) (99, 0)
theorem cst_app (g : Int → Int) (l : List Int) (p : Int) : cst g (l ++ [p]) = cup g (cst g l) p := by
  unfold cst
  rw [List.foldl_append]
  rfl
theorem cst_take (g : Int → Int) (l : List Int) (k : Nat) (h : k < l.length) : cst g (l.take (k + 1)) = cup g (cst g (l.take k)) (lat l k) := by
  rw [List.take_succ, List.getElem?_eq_getElem h]
  show cst g (l.take k ++ [l[k]]) = _
  rw [cst_app, lat_q, Int.toNat_natCast, List.getElem?_eq_getElem h]
  rfl
theorem cst_m (g : Int → Int) (q : Int → Prop) (h99 : q 99) : ∀ (l : List Int) (s : Int × Int), q s.1 → (∀ x ∈ l, q x) → q (l.foldl (cup g) s).1
  | [], s, hs, _ => hs
  | x :: l, s, hs, hl => by
    refine cst_m g q h99 l (cup g s x) ?_ (fun y hy => hl y (List.mem_cons_of_mem _ hy))
    unfold cup
    split
    · exact hl x List.mem_cons_self
    · exact hs
/-- letters beyond the sixth do not count -/
theorem wo_cg {L L' : Int → Int} (h : ∀ k, 0 ≤ k → k < 6 → L k = L' k) : ∀ (cs : List Int) (b : Bool) (st : List Int), (∀ s ∈ cs, -18 ≤ s ∧ s ≤ 9999) → wo L cs b st = wo L' cs b st
  | [], _, _, _ => rfl
  | s :: c, true, st, hb => by
    have ih := fun b st => wo_cg h c b st (fun x hx => hb x (List.mem_cons_of_mem _ hx))
    show (if s = -12 then wo L c false st else wo L c true st) = (if s = -12 then wo L' c false st else wo L' c true st)
    rw [ih, ih]
  | s :: c, false, st, hb => by
    have ih := fun b st => wo_cg h c b st (fun x hx => hb x (List.mem_cons_of_mem _ hx))
    have hs := hb s List.mem_cons_self
    show (if s = -12 then st.headD 0 else if s = -11 then wo L c (decide (st.headD 0 = 0)) st.tail else wo L c false (ev1 L s st)) = (if s = -12 then st.headD 0 else if s = -11 then wo L' c (decide (st.headD 0 = 0)) st.tail else wo L' c false (ev1 L' s st))
    have e : ev1 L s st = ev1 L' s st := by
      unfold ev1
      by_cases c1 : 0 ≤ s
      · rw [if_pos c1, if_pos c1]
      · rw [if_neg c1, if_neg c1]
        by_cases c2 : s ≤ -13
        · rw [if_pos c2, if_pos c2, h (-13 - s) (by omega) (by omega)]
        · rw [if_neg c2, if_neg c2]
    rw [ih, ih, e]
theorem ev1_ok {L : Int → Int} {s : Int} {ts t : List Bool} {st : List Int} (hL : ∀ k, 0 ≤ k → k < 6 → -1000000 ≤ L k ∧ L k ≤ 1000000) (hb : -18 ≤ s ∧ s ≤ 9999) (h : ty1 s ts = some t) (hV : VOK ts st) : VOK t (ev1 L s st) := by
  rcases ty1_c h with ⟨cs1, cs2, rfl⟩ | ⟨cs1, u, rfl, rfl⟩ | ⟨cs1, u, rfl, rfl⟩ | ⟨cs1, u, rfl, rfl⟩ | ⟨cs1, u, rfl, rfl⟩
  · by_cases c4 : 0 ≤ s
    · rw [ev1_n c4]; exact ⟨by omega, fun z => absurd z (by decide), hV⟩
    · rw [ev1_l (by omega)]; exact ⟨hL _ (by omega) (by omega), fun z => absurd z (by decide), hV⟩
  · obtain ⟨v1, s2, rfl, rv1, bv1, hV2⟩ := hV.c
    have b01 := bv1 rfl
    rw [show ev1 L s (v1 :: s2) = (1 - v1) :: s2 by rw [cs1]; rfl]
    exact ⟨by omega, fun _ => by omega, hV2⟩
  all_goals
    obtain ⟨v1, s2, rfl, rv1, bv1, hV2⟩ := hV.c
    obtain ⟨v2, s3, rfl, rv2, bv2, hV3⟩ := hV2.c
    rw [ev1_j (by omega), jn_jv]
    have hwr := wi_r (jv s v2 v1)
    first
      | exact ⟨hwr, fun z => absurd z (by decide), hV3⟩
      | exact ⟨hwr, fun _ => jv_b (by omega), hV3⟩
theorem wo_r {L : Int → Int} (hL : ∀ k, 0 ≤ k → k < 6 → -1000000 ≤ L k ∧ L k ≤ 1000000) : ∀ (cs : List Int) (b : Bool) (ts : List Bool) (st : List Int), (∀ s ∈ cs, -18 ≤ s ∧ s ≤ 9999) → wty cs ts → (b = false → VOK ts st) → (b = true → st = []) → -1000000 ≤ wo L cs b st ∧ wo L cs b st ≤ 1000000
  | [], _, _, _, _, _, _, _ => by show (-1000000 : Int) ≤ 0 ∧ (0 : Int) ≤ 1000000; omega
  | s :: c, true, ts, st, hb, hw, h1, h2 => by
    have hb' : ∀ s ∈ c, -18 ≤ s ∧ s ≤ 9999 := fun x hx => hb x (List.mem_cons_of_mem _ hx)
    have hw' : (if s = -12 then (ts = [false] ∧ wty c []) else if s = -11 then (ts = [true] ∧ wty c []) else ∃ t, ty1 s ts = some t ∧ wty c t) := hw
    obtain rfl := h2 rfl
    show -1000000 ≤ (if s = -12 then wo L c false [] else wo L c true []) ∧ (if s = -12 then wo L c false [] else wo L c true []) ≤ 1000000
    by_cases e : s = -12
    · rw [if_pos e] at hw' ⊢
      exact wo_r hL c false [] [] hb' hw'.2 (fun _ => trivial) (fun _ => rfl)
    · rw [if_neg e] at hw' ⊢
      by_cases e2 : s = -11
      · rw [if_pos e2] at hw'
        exact wo_r hL c true _ [] hb' hw'.2 (fun z => absurd z (by decide)) (fun _ => rfl)
      · rw [if_neg e2] at hw'
        obtain ⟨t, -, hw3⟩ := hw'
        exact wo_r hL c true t [] hb' hw3 (fun z => absurd z (by decide)) (fun _ => rfl)
  | s :: c, false, ts, st, hb, hw, h1, h2 => by
    have hb' : ∀ s ∈ c, -18 ≤ s ∧ s ≤ 9999 := fun x hx => hb x (List.mem_cons_of_mem _ hx)
    have hw' : (if s = -12 then (ts = [false] ∧ wty c []) else if s = -11 then (ts = [true] ∧ wty c []) else ∃ t, ty1 s ts = some t ∧ wty c t) := hw
    have hV := h1 rfl
    show -1000000 ≤ (if s = -12 then st.headD 0 else if s = -11 then wo L c (decide (st.headD 0 = 0)) st.tail else wo L c false (ev1 L s st)) ∧ (if s = -12 then st.headD 0 else if s = -11 then wo L c (decide (st.headD 0 = 0)) st.tail else wo L c false (ev1 L s st)) ≤ 1000000
    by_cases e : s = -12
    · rw [if_pos e] at hw' ⊢
      obtain ⟨rfl, -⟩ := hw'
      obtain ⟨v1, s2, rfl, rv1, -, -⟩ := hV.c
      exact rv1
    · rw [if_neg e] at hw' ⊢
      by_cases e2 : s = -11
      · rw [if_pos e2] at hw' ⊢
        obtain ⟨rfl, hw3⟩ := hw'
        obtain ⟨v1, s2, rfl, rv1, -, hV2⟩ := hV.c
        obtain rfl := hV2.nl
        exact wo_r hL c _ [] [] hb' hw3 (fun _ => trivial) (fun _ => rfl)
      · rw [if_neg e2] at hw' ⊢
        obtain ⟨t, hty, hw3⟩ := hw'
        exact wo_r hL c false t _ hb' hw3 (fun _ => ev1_ok hL (hb s List.mem_cons_self) hty hV) (fun z => absurd z (by decide))
/-- a rule among the cells behind -/
def RuC (tl : List PO) (j : Nat) (cs : List Int) : Prop := ∃ stk top f, j + 2 < tl.length ∧ tl[j]? = some (rcC j (cs.length : Int) top) ∧ tl[j + 1]? = some (.inl (0, 64, .inl (zA stk))) ∧ tl[j + 2]? = some (.inl (0, cs.length, .inl (zA f))) ∧ LAt (fun v => v) f cs
def TlR (j : Nat) (cs : List Int) (tl tl' : List PO) : Prop := tl'.length = tl.length ∧ (∀ k, k ≠ j → k ≠ j + 1 → tl'[k]? = tl[k]?) ∧ RuC tl' j cs
theorem set_self' {α : Type} {l : List α} {i : Nat} {x : α} (h : l[i]? = some x) : l.set i x = l := by
  apply List.ext_getElem?
  intro k
  rw [List.getElem?_set]
  by_cases e : i = k
  · subst e
    rw [if_pos rfl, if_pos (List.getElem?_eq_some_iff.mp h).1, h]
  · rw [if_neg e]
/-- a rule that is read well: its steps -/
def RdOK (tp : List Int) : Prop := TpOK tp ∧ rlF tp = -1
theorem RdOK.w {tp : List Int} (h : RdOK tp) : wty (rl9 tp).2.2 [] := rd_wty 3000 0 (by omega) (by omega) h.2
theorem RdOK.b (tp : List Int) : ∀ s ∈ (rl9 tp).2.2, -18 ≤ s ∧ s ≤ 9999 := rd_bd 3000 14 0 0
theorem RdOK.l {tp : List Int} (h : RdOK tp) : (rl9 tp).2.2.length ≤ 160 := by
  have h1 := ((rd_ok (tp := tp) 3000).at 14 0 (a := 0) (by omega)).2 h.2
  have h2 := h.1.1
  have h3 : ((rl9 tp).2.2.length : Int) + 0 ≤ (rl9 tp).2.1 - 0 := h1.2.2
  have h4 : (rl9 tp).2.1 ≤ (tp.length : Int) := h1.2.1
  omega
theorem x_worthH {K : PK} {d : Nat} {sc : Nat → Int} {ar : Nat → Int → Int} {tx oc : Nat} {rl : Nat → Option Nat} {ou : Nat → Int64} {tl : List PO} {q : Nat × Nat} {j : Nat} {tp : List Int} (hR : RdOK tp) (hC : RuC tl j (rl9 tp).2.2) (hL : ∀ k, 0 ≤ k → k < 6 → -1000000 ≤ ar 79 k ∧ ar 79 k ≤ 1000000) : CQ K (d + 3) 3 [.ref (j + 118), .ref 79] (HW sc ar tx oc rl ou tl, q) (fun r g' => r = some (.int (iI (wo (ar 79) (rl9 tp).2.2 false []))) ∧ ∃ tl', g' = (HW sc ar tx oc rl ou tl', q) ∧ TlR j (rl9 tp).2.2 tl tl') := by
  obtain ⟨stk, top, f, h1, h2, h3, h4, h5⟩ := hC
  have hl := hR.l
  have e : HW sc ar tx oc rl ou tl = cg (HW sc ar tx oc rl ou tl) (j + 118) (j + 119) (j + 120) ((rl9 tp).2.2.length : Int) stk top := by
    unfold cg
    rw [set_self' (l := HW sc ar tx oc rl ou tl) (i := j + 119) ((HWt_r tl (j + 1)).trans h3)]
    exact (set_self' (l := HW sc ar tx oc rl ou tl) (i := j + 118) ((HWt_r tl j).trans h2)).symm
  have hn : (HW sc ar tx oc rl ou tl).length = tl.length + 118 := rfl
  have hC2 : CgOK (HW sc ar tx oc rl ou tl) (j + 118) (j + 119) (j + 120) (rl9 tp).2.2.length f := ⟨by omega, by omega, by omega, by omega, by omega, (HWt_r tl (j + 2)).trans h4, by omega⟩
  have h := x_worth (K := K) (d := d) (q := q) (l := 79) hC2 h5 (Nat.le_refl _) (RdOK.b tp) (lt := ar 79) (by omega) (by omega) rfl hL (stk0 := stk) (top0 := top) hR.w
  rw [← e] at h
  obtain ⟨r, g', k1, k2, stk', top', rfl⟩ := h
  refine ⟨r, _, k1, k2, (tl.set (j + 1) (.inl (0, 64, .inl (zA stk')))).set j (rcC j ((rl9 tp).2.2.length : Int) top'), rfl, by rw [List.length_set, List.length_set], fun k n1 n2 => by rw [List.getElem?_set_ne (Ne.symm n1), List.getElem?_set_ne (Ne.symm n2)], stk', top', f, by rw [List.length_set, List.length_set]; exact h1, ?_, ?_, ?_, h5⟩
  · exact List.getElem?_set_self (by rw [List.length_set]; omega)
  · rw [List.getElem?_set_ne (by omega)]
    exact List.getElem?_set_self (by omega)
  · rw [List.getElem?_set_ne (by omega), List.getElem?_set_ne (by omega)]
    exact h4
theorem TlR.tr {j : Nat} {cs : List Int} {t1 t2 t3 : List PO} (h1 : TlR j cs t1 t2) (h2 : TlR j cs t2 t3) : TlR j cs t1 t3 := ⟨h2.1.trans h1.1, fun k n1 n2 => (h2.2.1 k n1 n2).trans (h1.2.1 k n1 n2), h2.2.2⟩
theorem TlR.rf {j : Nat} {cs : List Int} {tl : List PO} (h : RuC tl j cs) : TlR j cs tl tl := ⟨rfl, fun _ _ _ => rfl, h⟩
def wof (W : Int → Int → Int) (P : Int → Int) (b : Int) (cs : List Int) : Int → Int := fun p => wo (lts W P b p) cs false []
theorem x_sl_l {K : PK} {d : Nat} {sc : Nat → Int} {ar : Nat → Int → Int} {tx oc : Nat} {rl : Nat → Option Nat} {ou : Nat → Int64} {tl : List PO} {q : Nat × Nat} {Q : Option Value → PG → Prop} {P : Int → Int} {b p : Int} (hb : 0 ≤ b ∧ b ≤ 3) (hp : 0 ≤ p ∧ p < 99) (hpu : ∀ c, 0 ≤ c → c < b → ar 78 c = P c ∧ 0 ≤ P c ∧ P c ≤ 99) : ∀ (m n : Nat) (a o : Int) (hm : n + m = b.toNat) (ha : a = cct P m10 (p % 10) n) (ho : o = cct P d10 (p / 10) n) (hk : RQ K (d + 1) 10 false none cd147 93 [some (.ref 0), some (.int (iI b)), some (.int (iI p)), some (.int (iI (p / 10))), some (.int (iI (p % 10))), some (.int (iI (cct P m10 (p % 10) b.toNat))), some (.int (iI (cct P d10 (p / 10) b.toNat))), some (.int (iI b))] [] (HW sc ar tx oc rl ou tl, q) Q), RQ K (d + 1) 10 false none cd147 20 [some (.ref 0), some (.int (iI b)), some (.int (iI p)), some (.int (iI (p / 10))), some (.int (iI (p % 10))), some (.int (iI a)), some (.int (iI o)), some (.int (iI (n : Int)))] [] (HW sc ar tx oc rl ou tl, q) Q
  | 0, n, a, o, hm, ha, ho, hk => by
    have h1 := cct_r P m10 (p % 10) n
    have h2 := cct_r P d10 (p / 10) n
    refine RQ.seg 2 (pc' := 23) (L' := [some (.ref 0), some (.int (iI b)), some (.int (iI p)), some (.int (iI (p / 10))), some (.int (iI (p % 10))), some (.int (iI a)), some (.int (iI o)), some (.int (iI (n : Int)))]) (st' := [.int (iI b), .int (iI (n : Int))]) (g1 := (HW sc ar tx oc rl ou tl, q)) rfl ?_
    refine RQ.if2 (a := (n : Int)) (b := b) rfl rfl rfl rfl (by omega) (by omega) (fun _ => ?_) (fun (q : ¬ b ≤ (n : Int)) => absurd (show b ≤ (n : Int) from by omega) q)
    obtain rfl : n = b.toNat := by omega
    rw [ha, ho, show ((b.toNat : Nat) : Int) = b by omega]
    exact hk
  | m + 1, n, a, o, hm, ha, ho, hk => by
    have h1 := cct_r P m10 (p % 10) n
    have h2 := cct_r P d10 (p / 10) n
    obtain ⟨hpc, hp0, hp1⟩ := hpu (n : Int) (by omega) (by omega)
    refine RQ.seg 2 (pc' := 23) (L' := [some (.ref 0), some (.int (iI b)), some (.int (iI p)), some (.int (iI (p / 10))), some (.int (iI (p % 10))), some (.int (iI a)), some (.int (iI o)), some (.int (iI (n : Int)))]) (st' := [.int (iI b), .int (iI (n : Int))]) (g1 := (HW sc ar tx oc rl ou tl, q)) rfl ?_
    refine RQ.if2 (a := (n : Int)) (b := b) rfl rfl rfl rfl (by omega) (by omega) (fun (q : b ≤ (n : Int)) => absurd q (show ¬ b ≤ (n : Int) from by omega)) (fun _ => ?_)
    refine RQ.seg 3 (pc' := 32) (L' := [some (.ref 0), some (.int (iI b)), some (.int (iI p)), some (.int (iI (p / 10))), some (.int (iI (p % 10))), some (.int (iI a)), some (.int (iI o)), some (.int (iI (n : Int)))]) (st' := [.int (iI (n : Int)), .ref 78]) (g1 := (HW sc ar tx oc rl ou tl, q)) rfl ?_
    refine RQ.ialdv (z := (n : Int)) (v := (P (n : Int))) rfl rfl rfl (by omega) (by decide) hpc ?_
    refine RQ.seg 1 (pc' := 35) (L' := [some (.ref 0), some (.int (iI b)), some (.int (iI p)), some (.int (iI (p / 10))), some (.int (iI (p % 10))), some (.int (iI a)), some (.int (iI o)), some (.int (iI (n : Int)))]) (st' := [.int (iI 99), .int (iI (P (n : Int)))]) (g1 := (HW sc ar tx oc rl ou tl, q)) rfl ?_
    refine RQ.if2 (a := (P (n : Int))) (b := 99) rfl rfl rfl rfl (by omega) (by omega) (fun (h2 : P (n : Int) = 99) => ?_) (fun (h2 : ¬ P (n : Int) = 99) => ?_)
    · skip
      refine RQ.seg 2 (pc' := 20) (L' := [some (.ref 0), some (.int (iI b)), some (.int (iI p)), some (.int (iI (p / 10))), some (.int (iI (p % 10))), some (.int (iI a)), some (.int (iI o)), some (.int ((iI (n : Int)) + (iI 1)))]) (st' := []) (g1 := (HW sc ar tx oc rl ou tl, q)) rfl ?_
      refine RQ.to (L' := [some (.ref 0), some (.int (iI b)), some (.int (iI p)), some (.int (iI (p / 10))), some (.int (iI (p % 10))), some (.int (iI a)), some (.int (iI o)), some (.int (iI ((n : Int) + 1)))]) (st' := []) (by simp only [iI_add, iI_sub, iI_mul, iI_neg]) rfl ?_
      exact x_sl_l hb hp hpu m (n + 1) (a) (o) (by omega) (by show _ = cct P m10 (p % 10) n + (if P (n : Int) ≠ 99 ∧ P (n : Int) % 10 = p % 10 then 1 else 0); first | (rw [if_pos (by omega)]; omega) | (rw [if_neg (by omega)]; omega)) (by show _ = cct P d10 (p / 10) n + (if P (n : Int) ≠ 99 ∧ P (n : Int) / 10 = p / 10 then 1 else 0); first | (rw [if_pos (by omega)]; omega) | (rw [if_neg (by omega)]; omega)) hk
    · skip
      refine RQ.seg 4 (pc' := 46) (L' := [some (.ref 0), some (.int (iI b)), some (.int (iI p)), some (.int (iI (p / 10))), some (.int (iI (p % 10))), some (.int (iI a)), some (.int (iI o)), some (.int (iI (n : Int)))]) (st' := [.int (iI (n : Int)), .ref 78, .int (iI a)]) (g1 := (HW sc ar tx oc rl ou tl, q)) rfl ?_
      refine RQ.ialdv (z := (n : Int)) (v := (P (n : Int))) rfl rfl rfl (by omega) (by decide) hpc ?_
      refine RQ.seg 1 (pc' := 49) (L' := [some (.ref 0), some (.int (iI b)), some (.int (iI p)), some (.int (iI (p / 10))), some (.int (iI (p % 10))), some (.int (iI a)), some (.int (iI o)), some (.int (iI (n : Int)))]) (st' := [.int (iI 10), .int (iI (P (n : Int))), .int (iI a)]) (g1 := (HW sc ar tx oc rl ou tl, q)) rfl ?_
      refine RQ.irem (a := (P (n : Int))) (b := 10) rfl rfl rfl (by omega) (by omega) ?_
      refine RQ.seg 1 (pc' := 52) (L' := [some (.ref 0), some (.int (iI b)), some (.int (iI p)), some (.int (iI (p / 10))), some (.int (iI (p % 10))), some (.int (iI a)), some (.int (iI o)), some (.int (iI (n : Int)))]) (st' := [.int (iI (p % 10)), .int (iI ((P (n : Int)) % 10)), .int (iI a)]) (g1 := (HW sc ar tx oc rl ou tl, q)) rfl ?_
      refine RQ.if2 (a := ((P (n : Int)) % 10)) (b := (p % 10)) rfl rfl rfl rfl (by omega) (by omega) (fun (h3 : (P (n : Int)) % 10 ≠ p % 10) => ?_) (fun (h3 : ¬ (P (n : Int)) % 10 ≠ p % 10) => ?_)
      · skip
        refine RQ.seg 7 (pc' := 71) (L' := [some (.ref 0), some (.int (iI b)), some (.int (iI p)), some (.int (iI (p / 10))), some (.int (iI (p % 10))), some (.int ((iI a) + (iI 0))), some (.int (iI o)), some (.int (iI (n : Int)))]) (st' := [.int (iI (n : Int)), .ref 78, .int (iI o)]) (g1 := (HW sc ar tx oc rl ou tl, q)) rfl ?_
        refine RQ.ialdv (z := (n : Int)) (v := (P (n : Int))) rfl rfl rfl (by omega) (by decide) hpc ?_
        refine RQ.seg 1 (pc' := 74) (L' := [some (.ref 0), some (.int (iI b)), some (.int (iI p)), some (.int (iI (p / 10))), some (.int (iI (p % 10))), some (.int ((iI a) + (iI 0))), some (.int (iI o)), some (.int (iI (n : Int)))]) (st' := [.int (iI 10), .int (iI (P (n : Int))), .int (iI o)]) (g1 := (HW sc ar tx oc rl ou tl, q)) rfl ?_
        refine RQ.idiv (a := (P (n : Int))) (b := 10) rfl rfl rfl (by omega) (by omega) ?_
        refine RQ.seg 1 (pc' := 76) (L' := [some (.ref 0), some (.int (iI b)), some (.int (iI p)), some (.int (iI (p / 10))), some (.int (iI (p % 10))), some (.int ((iI a) + (iI 0))), some (.int (iI o)), some (.int (iI (n : Int)))]) (st' := [.int (iI (p / 10)), .int (iI ((P (n : Int)) / 10)), .int (iI o)]) (g1 := (HW sc ar tx oc rl ou tl, q)) rfl ?_
        refine RQ.if2 (a := ((P (n : Int)) / 10)) (b := (p / 10)) rfl rfl rfl rfl (by omega) (by omega) (fun (h4 : (P (n : Int)) / 10 ≠ p / 10) => ?_) (fun (h4 : ¬ (P (n : Int)) / 10 ≠ p / 10) => ?_)
        · skip
          refine RQ.seg 5 (pc' := 20) (L' := [some (.ref 0), some (.int (iI b)), some (.int (iI p)), some (.int (iI (p / 10))), some (.int (iI (p % 10))), some (.int ((iI a) + (iI 0))), some (.int ((iI o) + (iI 0))), some (.int ((iI (n : Int)) + (iI 1)))]) (st' := []) (g1 := (HW sc ar tx oc rl ou tl, q)) rfl ?_
          refine RQ.to (L' := [some (.ref 0), some (.int (iI b)), some (.int (iI p)), some (.int (iI (p / 10))), some (.int (iI (p % 10))), some (.int (iI (a + 0))), some (.int (iI (o + 0))), some (.int (iI ((n : Int) + 1)))]) (st' := []) (by simp only [iI_add, iI_sub, iI_mul, iI_neg]) rfl ?_
          exact x_sl_l hb hp hpu m (n + 1) (a + 0) (o + 0) (by omega) (by show _ = cct P m10 (p % 10) n + (if P (n : Int) ≠ 99 ∧ P (n : Int) % 10 = p % 10 then 1 else 0); first | (rw [if_pos (by omega)]; omega) | (rw [if_neg (by omega)]; omega)) (by show _ = cct P d10 (p / 10) n + (if P (n : Int) ≠ 99 ∧ P (n : Int) / 10 = p / 10 then 1 else 0); first | (rw [if_pos (by omega)]; omega) | (rw [if_neg (by omega)]; omega)) hk
        · skip
          refine RQ.seg 6 (pc' := 20) (L' := [some (.ref 0), some (.int (iI b)), some (.int (iI p)), some (.int (iI (p / 10))), some (.int (iI (p % 10))), some (.int ((iI a) + (iI 0))), some (.int ((iI o) + (iI 1))), some (.int ((iI (n : Int)) + (iI 1)))]) (st' := []) (g1 := (HW sc ar tx oc rl ou tl, q)) rfl ?_
          refine RQ.to (L' := [some (.ref 0), some (.int (iI b)), some (.int (iI p)), some (.int (iI (p / 10))), some (.int (iI (p % 10))), some (.int (iI (a + 0))), some (.int (iI (o + 1))), some (.int (iI ((n : Int) + 1)))]) (st' := []) (by simp only [iI_add, iI_sub, iI_mul, iI_neg]) rfl ?_
          exact x_sl_l hb hp hpu m (n + 1) (a + 0) (o + 1) (by omega) (by show _ = cct P m10 (p % 10) n + (if P (n : Int) ≠ 99 ∧ P (n : Int) % 10 = p % 10 then 1 else 0); first | (rw [if_pos (by omega)]; omega) | (rw [if_neg (by omega)]; omega)) (by show _ = cct P d10 (p / 10) n + (if P (n : Int) ≠ 99 ∧ P (n : Int) / 10 = p / 10 then 1 else 0); first | (rw [if_pos (by omega)]; omega) | (rw [if_neg (by omega)]; omega)) hk
      · skip
        refine RQ.seg 8 (pc' := 71) (L' := [some (.ref 0), some (.int (iI b)), some (.int (iI p)), some (.int (iI (p / 10))), some (.int (iI (p % 10))), some (.int ((iI a) + (iI 1))), some (.int (iI o)), some (.int (iI (n : Int)))]) (st' := [.int (iI (n : Int)), .ref 78, .int (iI o)]) (g1 := (HW sc ar tx oc rl ou tl, q)) rfl ?_
        refine RQ.ialdv (z := (n : Int)) (v := (P (n : Int))) rfl rfl rfl (by omega) (by decide) hpc ?_
        refine RQ.seg 1 (pc' := 74) (L' := [some (.ref 0), some (.int (iI b)), some (.int (iI p)), some (.int (iI (p / 10))), some (.int (iI (p % 10))), some (.int ((iI a) + (iI 1))), some (.int (iI o)), some (.int (iI (n : Int)))]) (st' := [.int (iI 10), .int (iI (P (n : Int))), .int (iI o)]) (g1 := (HW sc ar tx oc rl ou tl, q)) rfl ?_
        refine RQ.idiv (a := (P (n : Int))) (b := 10) rfl rfl rfl (by omega) (by omega) ?_
        refine RQ.seg 1 (pc' := 76) (L' := [some (.ref 0), some (.int (iI b)), some (.int (iI p)), some (.int (iI (p / 10))), some (.int (iI (p % 10))), some (.int ((iI a) + (iI 1))), some (.int (iI o)), some (.int (iI (n : Int)))]) (st' := [.int (iI (p / 10)), .int (iI ((P (n : Int)) / 10)), .int (iI o)]) (g1 := (HW sc ar tx oc rl ou tl, q)) rfl ?_
        refine RQ.if2 (a := ((P (n : Int)) / 10)) (b := (p / 10)) rfl rfl rfl rfl (by omega) (by omega) (fun (h5 : (P (n : Int)) / 10 ≠ p / 10) => ?_) (fun (h5 : ¬ (P (n : Int)) / 10 ≠ p / 10) => ?_)
        · skip
          refine RQ.seg 5 (pc' := 20) (L' := [some (.ref 0), some (.int (iI b)), some (.int (iI p)), some (.int (iI (p / 10))), some (.int (iI (p % 10))), some (.int ((iI a) + (iI 1))), some (.int ((iI o) + (iI 0))), some (.int ((iI (n : Int)) + (iI 1)))]) (st' := []) (g1 := (HW sc ar tx oc rl ou tl, q)) rfl ?_
          refine RQ.to (L' := [some (.ref 0), some (.int (iI b)), some (.int (iI p)), some (.int (iI (p / 10))), some (.int (iI (p % 10))), some (.int (iI (a + 1))), some (.int (iI (o + 0))), some (.int (iI ((n : Int) + 1)))]) (st' := []) (by simp only [iI_add, iI_sub, iI_mul, iI_neg]) rfl ?_
          exact x_sl_l hb hp hpu m (n + 1) (a + 1) (o + 0) (by omega) (by show _ = cct P m10 (p % 10) n + (if P (n : Int) ≠ 99 ∧ P (n : Int) % 10 = p % 10 then 1 else 0); first | (rw [if_pos (by omega)]; omega) | (rw [if_neg (by omega)]; omega)) (by show _ = cct P d10 (p / 10) n + (if P (n : Int) ≠ 99 ∧ P (n : Int) / 10 = p / 10 then 1 else 0); first | (rw [if_pos (by omega)]; omega) | (rw [if_neg (by omega)]; omega)) hk
        · skip
          refine RQ.seg 6 (pc' := 20) (L' := [some (.ref 0), some (.int (iI b)), some (.int (iI p)), some (.int (iI (p / 10))), some (.int (iI (p % 10))), some (.int ((iI a) + (iI 1))), some (.int ((iI o) + (iI 1))), some (.int ((iI (n : Int)) + (iI 1)))]) (st' := []) (g1 := (HW sc ar tx oc rl ou tl, q)) rfl ?_
          refine RQ.to (L' := [some (.ref 0), some (.int (iI b)), some (.int (iI p)), some (.int (iI (p / 10))), some (.int (iI (p % 10))), some (.int (iI (a + 1))), some (.int (iI (o + 1))), some (.int (iI ((n : Int) + 1)))]) (st' := []) (by simp only [iI_add, iI_sub, iI_mul, iI_neg]) rfl ?_
          exact x_sl_l hb hp hpu m (n + 1) (a + 1) (o + 1) (by omega) (by show _ = cct P m10 (p % 10) n + (if P (n : Int) ≠ 99 ∧ P (n : Int) % 10 = p % 10 then 1 else 0); first | (rw [if_pos (by omega)]; omega) | (rw [if_neg (by omega)]; omega)) (by show _ = cct P d10 (p / 10) n + (if P (n : Int) ≠ 99 ∧ P (n : Int) / 10 = p / 10 then 1 else 0); first | (rw [if_pos (by omega)]; omega) | (rw [if_neg (by omega)]; omega)) hk
theorem x_setL {K : PK} {d : Nat} {sc : Nat → Int} {ar : Nat → Int → Int} {tx oc : Nat} {rl : Nat → Option Nat} {ou : Nat → Int64} {tl : List PO} {q : Nat × Nat} {nw nb : Int} {W B : Int → Int → Int} (hF : FrOK nw nb W B) (hX : FrX (sc 303) (sc 304) (ar 5) (ar 6) (ar 7) (ar 8) (ar 10) (ar 11) (ar 12) nw nb W B) {P : Int → Int} {b p : Int} (hb : 0 ≤ b ∧ b < nb) (hp : 0 ≤ p ∧ p < 99) (hm : may nw W B b p) (hpu : ∀ c, 0 ≤ c → c < b → ar 78 c = P c ∧ 0 ≤ P c ∧ P c ≤ 99) : CQ K (d + 2) 147 [.ref 0, .int (iI b), .int (iI p)] (HW sc ar tx oc rl ou tl, q) (fun r g' => r = none ∧ ∃ f, g' = (HW sc (usc ar 79 f) tx oc rl ou tl, q) ∧ ∀ k, 0 ≤ k → k < 6 → f k = lts W P b p k) := by
  have hn := hF.1
  have hm1 := hX.1
  have hm2 := hX.2.1
  have hw9 : p % 10 < nw ∧ p / 10 < 6 := by unfold may at hm; omega
  have hww := hF.2.1 (p % 10) (by omega) (by omega)
  have h1 := cct_r P m10 (p % 10) b.toNat
  have h2 := cct_r P d10 (p / 10) b.toNat
  refine CQ.of (own := 10) (n := 8) (ini := false) (rt := none) (cd := cd147) (by decide +kernel) rfl (by decide +kernel) rfl (Nat.le_of_ble_eq_true rfl) ?_
  refine RQ.seg 2 (pc' := 3) (L' := [some (.ref 0), some (.int (iI b)), some (.int (iI p)), none, none, none, none, none]) (st' := [.int (iI 10), .int (iI p)]) (g1 := (HW sc ar tx oc rl ou tl, q)) rfl ?_
  refine RQ.idiv (a := p) (b := 10) rfl rfl rfl (by omega) (by omega) ?_
  refine RQ.seg 3 (pc' := 8) (L' := [some (.ref 0), some (.int (iI b)), some (.int (iI p)), some (.int (iI (p / 10))), none, none, none, none]) (st' := [.int (iI 10), .int (iI p)]) (g1 := (HW sc ar tx oc rl ou tl, q)) rfl ?_
  refine RQ.irem (a := p) (b := 10) rfl rfl rfl (by omega) (by omega) ?_
  refine RQ.seg 7 (pc' := 20) (L' := [some (.ref 0), some (.int (iI b)), some (.int (iI p)), some (.int (iI (p / 10))), some (.int (iI (p % 10))), some (.int (iI 0)), some (.int (iI 0)), some (.int (iI 0))]) (st' := []) (g1 := (HW sc ar tx oc rl ou tl, q)) rfl ?_
  refine x_sl_l (by omega) hp hpu b.toNat 0 0 0 (by omega) rfl rfl ?_
  refine RQ.seg 8 (pc' := 108) (L' := [some (.ref 0), some (.int (iI b)), some (.int (iI p)), some (.int (iI (p / 10))), some (.int (iI (p % 10))), some (.int (iI (cct P m10 (p % 10) b.toNat))), some (.int (iI (cct P d10 (p / 10) b.toNat))), some (.int (iI b))]) (st' := [.int (iI (p % 10)), .ref 4, .int (iI (p / 10)), .int (iI 0), .ref 79]) (g1 := (HW sc ar tx oc rl ou tl, q)) rfl ?_
  refine RQ.aald (z := (p % 10)) rfl rfl rfl (by omega) (by decide) ?_
  refine RQ.seg 1 (pc' := 110) (L' := [some (.ref 0), some (.int (iI b)), some (.int (iI p)), some (.int (iI (p / 10))), some (.int (iI (p % 10))), some (.int (iI (cct P m10 (p % 10) b.toNat))), some (.int (iI (cct P d10 (p / 10) b.toNat))), some (.int (iI b))]) (st' := [.int (iI 0), .ref (5 + (p % 10).toNat), .int (iI (p / 10)), .int (iI 0), .ref 79]) (g1 := (HW sc ar tx oc rl ou tl, q)) rfl ?_
  have hf1 := hF.2.1 (p % 10) (by omega) (by omega)
  refine RQ.ialdv (z := 0) (v := (W (p % 10) 0)) rfl rfl (HW_r4 (by omega)) (by omega) (by decide) (frx_w (j := 0) hX (by omega) (by omega) (by omega) (by omega) hF.1.2.1) ?_
  refine RQ.seg 1 (pc' := 112) (L' := [some (.ref 0), some (.int (iI b)), some (.int (iI p)), some (.int (iI (p / 10))), some (.int (iI (p % 10))), some (.int (iI (cct P m10 (p % 10) b.toNat))), some (.int (iI (cct P d10 (p / 10) b.toNat))), some (.int (iI b))]) (st' := [.int ((iI (p / 10)) - (iI (W (p % 10) 0))), .int (iI 0), .ref 79]) (g1 := (HW sc ar tx oc rl ou tl, q)) rfl ?_
  refine RQ.to (L' := [some (.ref 0), some (.int (iI b)), some (.int (iI p)), some (.int (iI (p / 10))), some (.int (iI (p % 10))), some (.int (iI (cct P m10 (p % 10) b.toNat))), some (.int (iI (cct P d10 (p / 10) b.toNat))), some (.int (iI b))]) (st' := [.int (iI (p / 10 - (W (p % 10) 0))), .int (iI 0), .ref 79]) rfl (by simp only [iI_add, iI_sub, iI_mul, iI_neg]) ?_
  refine RQ.call rfl rfl (CallR.up (d := 1) (x_abs (d := 0) (a := p / 10 - (W (p % 10) 0)) (by omega)) (by omega)) ?_
  refine RQ.iast (z := 0) (v := (if 0 ≤ p / 10 - (W (p % 10) 0) then p / 10 - (W (p % 10) 0) else -(p / 10 - (W (p % 10) 0)))) (g1 := (HW sc (usc ar 79 (usz (ar 79) 0 (if 0 ≤ p / 10 - (W (p % 10) 0) then p / 10 - (W (p % 10) 0) else -(p / 10 - (W (p % 10) 0))))) tx oc rl ou tl, q)) rfl rfl rfl rfl (by omega) (by decide) (HWa_79 rfl) ?_
  refine RQ.seg 7 (pc' := 130) (L' := [some (.ref 0), some (.int (iI b)), some (.int (iI p)), some (.int (iI (p / 10))), some (.int (iI (p % 10))), some (.int (iI (cct P m10 (p % 10) b.toNat))), some (.int (iI (cct P d10 (p / 10) b.toNat))), some (.int (iI b))]) (st' := [.int (iI (p % 10)), .ref 4, .int (iI 1), .ref 79]) (g1 := (HW sc (usc ar 79 (usz (ar 79) 0 (if 0 ≤ p / 10 - (W (p % 10) 0) then p / 10 - (W (p % 10) 0) else -(p / 10 - (W (p % 10) 0))))) tx oc rl ou tl, q)) rfl ?_
  refine RQ.aald (z := (p % 10)) rfl rfl rfl (by omega) (by decide) ?_
  refine RQ.seg 1 (pc' := 132) (L' := [some (.ref 0), some (.int (iI b)), some (.int (iI p)), some (.int (iI (p / 10))), some (.int (iI (p % 10))), some (.int (iI (cct P m10 (p % 10) b.toNat))), some (.int (iI (cct P d10 (p / 10) b.toNat))), some (.int (iI b))]) (st' := [.int (iI 1), .ref (5 + (p % 10).toNat), .int (iI 1), .ref 79]) (g1 := (HW sc (usc ar 79 (usz (ar 79) 0 (if 0 ≤ p / 10 - (W (p % 10) 0) then p / 10 - (W (p % 10) 0) else -(p / 10 - (W (p % 10) 0))))) tx oc rl ou tl, q)) rfl ?_
  refine RQ.ialdv (z := 1) (v := (W (p % 10) 1)) rfl rfl (HW_r4 (by omega)) (by omega) (by decide) (frx_w (j := 1) hX (by omega) (by omega) (by omega) (by omega) hF.1.2.1) ?_
  refine RQ.iast (z := 1) (v := (W (p % 10) 1)) (g1 := (HW sc (usc ar 79 (usz (usz (ar 79) 0 (if 0 ≤ p / 10 - (W (p % 10) 0) then p / 10 - (W (p % 10) 0) else -(p / 10 - (W (p % 10) 0)))) 1 (W (p % 10) 1))) tx oc rl ou tl, q)) rfl rfl rfl rfl (by omega) (by decide) (HWa_79 (by funext j; unfold usc; cases hb : Nat.beq j 79 <;> first | rfl | (rw [Nat.eq_of_beq_eq_true hb]; rfl))) ?_
  refine RQ.seg 7 (pc' := 148) (L' := [some (.ref 0), some (.int (iI b)), some (.int (iI p)), some (.int (iI (p / 10))), some (.int (iI (p % 10))), some (.int (iI (cct P m10 (p % 10) b.toNat))), some (.int (iI (cct P d10 (p / 10) b.toNat))), some (.int (iI b))]) (st' := [.int (iI (p % 10)), .ref 4, .int (iI 2), .ref 79]) (g1 := (HW sc (usc ar 79 (usz (usz (ar 79) 0 (if 0 ≤ p / 10 - (W (p % 10) 0) then p / 10 - (W (p % 10) 0) else -(p / 10 - (W (p % 10) 0)))) 1 (W (p % 10) 1))) tx oc rl ou tl, q)) rfl ?_
  refine RQ.aald (z := (p % 10)) rfl rfl rfl (by omega) (by decide) ?_
  refine RQ.seg 1 (pc' := 150) (L' := [some (.ref 0), some (.int (iI b)), some (.int (iI p)), some (.int (iI (p / 10))), some (.int (iI (p % 10))), some (.int (iI (cct P m10 (p % 10) b.toNat))), some (.int (iI (cct P d10 (p / 10) b.toNat))), some (.int (iI b))]) (st' := [.int (iI 2), .ref (5 + (p % 10).toNat), .int (iI 2), .ref 79]) (g1 := (HW sc (usc ar 79 (usz (usz (ar 79) 0 (if 0 ≤ p / 10 - (W (p % 10) 0) then p / 10 - (W (p % 10) 0) else -(p / 10 - (W (p % 10) 0)))) 1 (W (p % 10) 1))) tx oc rl ou tl, q)) rfl ?_
  refine RQ.ialdv (z := 2) (v := (W (p % 10) 2)) rfl rfl (HW_r4 (by omega)) (by omega) (by decide) (frx_w (j := 2) hX (by omega) (by omega) (by omega) (by omega) hF.1.2.1) ?_
  refine RQ.iast (z := 2) (v := (W (p % 10) 2)) (g1 := (HW sc (usc ar 79 (usz (usz (usz (ar 79) 0 (if 0 ≤ p / 10 - (W (p % 10) 0) then p / 10 - (W (p % 10) 0) else -(p / 10 - (W (p % 10) 0)))) 1 (W (p % 10) 1)) 2 (W (p % 10) 2))) tx oc rl ou tl, q)) rfl rfl rfl rfl (by omega) (by decide) (HWa_79 (by funext j; unfold usc; cases hb : Nat.beq j 79 <;> first | rfl | (rw [Nat.eq_of_beq_eq_true hb]; rfl))) ?_
  refine RQ.seg 7 (pc' := 166) (L' := [some (.ref 0), some (.int (iI b)), some (.int (iI p)), some (.int (iI (p / 10))), some (.int (iI (p % 10))), some (.int (iI (cct P m10 (p % 10) b.toNat))), some (.int (iI (cct P d10 (p / 10) b.toNat))), some (.int (iI b))]) (st' := [.int (iI (p % 10)), .ref 4, .int (iI 3), .ref 79]) (g1 := (HW sc (usc ar 79 (usz (usz (usz (ar 79) 0 (if 0 ≤ p / 10 - (W (p % 10) 0) then p / 10 - (W (p % 10) 0) else -(p / 10 - (W (p % 10) 0)))) 1 (W (p % 10) 1)) 2 (W (p % 10) 2))) tx oc rl ou tl, q)) rfl ?_
  refine RQ.aald (z := (p % 10)) rfl rfl rfl (by omega) (by decide) ?_
  refine RQ.seg 1 (pc' := 168) (L' := [some (.ref 0), some (.int (iI b)), some (.int (iI p)), some (.int (iI (p / 10))), some (.int (iI (p % 10))), some (.int (iI (cct P m10 (p % 10) b.toNat))), some (.int (iI (cct P d10 (p / 10) b.toNat))), some (.int (iI b))]) (st' := [.int (iI 3), .ref (5 + (p % 10).toNat), .int (iI 3), .ref 79]) (g1 := (HW sc (usc ar 79 (usz (usz (usz (ar 79) 0 (if 0 ≤ p / 10 - (W (p % 10) 0) then p / 10 - (W (p % 10) 0) else -(p / 10 - (W (p % 10) 0)))) 1 (W (p % 10) 1)) 2 (W (p % 10) 2))) tx oc rl ou tl, q)) rfl ?_
  refine RQ.ialdv (z := 3) (v := (W (p % 10) 3)) rfl rfl (HW_r4 (by omega)) (by omega) (by decide) (frx_w (j := 3) hX (by omega) (by omega) (by omega) (by omega) hF.1.2.1) ?_
  refine RQ.iast (z := 3) (v := (W (p % 10) 3)) (g1 := (HW sc (usc ar 79 (usz (usz (usz (usz (ar 79) 0 (if 0 ≤ p / 10 - (W (p % 10) 0) then p / 10 - (W (p % 10) 0) else -(p / 10 - (W (p % 10) 0)))) 1 (W (p % 10) 1)) 2 (W (p % 10) 2)) 3 (W (p % 10) 3))) tx oc rl ou tl, q)) rfl rfl rfl rfl (by omega) (by decide) (HWa_79 (by funext j; unfold usc; cases hb : Nat.beq j 79 <;> first | rfl | (rw [Nat.eq_of_beq_eq_true hb]; rfl))) ?_
  refine RQ.seg 4 (pc' := 177) (L' := [some (.ref 0), some (.int (iI b)), some (.int (iI p)), some (.int (iI (p / 10))), some (.int (iI (p % 10))), some (.int (iI (cct P m10 (p % 10) b.toNat))), some (.int (iI (cct P d10 (p / 10) b.toNat))), some (.int (iI b))]) (st' := [.int (iI (cct P m10 (p % 10) b.toNat)), .int (iI 4), .ref 79]) (g1 := (HW sc (usc ar 79 (usz (usz (usz (usz (ar 79) 0 (if 0 ≤ p / 10 - (W (p % 10) 0) then p / 10 - (W (p % 10) 0) else -(p / 10 - (W (p % 10) 0)))) 1 (W (p % 10) 1)) 2 (W (p % 10) 2)) 3 (W (p % 10) 3))) tx oc rl ou tl, q)) rfl ?_
  refine RQ.iast (z := 4) (v := (cct P m10 (p % 10) b.toNat)) (g1 := (HW sc (usc ar 79 (usz (usz (usz (usz (usz (ar 79) 0 (if 0 ≤ p / 10 - (W (p % 10) 0) then p / 10 - (W (p % 10) 0) else -(p / 10 - (W (p % 10) 0)))) 1 (W (p % 10) 1)) 2 (W (p % 10) 2)) 3 (W (p % 10) 3)) 4 (cct P m10 (p % 10) b.toNat))) tx oc rl ou tl, q)) rfl rfl rfl rfl (by omega) (by decide) (HWa_79 (by funext j; unfold usc; cases hb : Nat.beq j 79 <;> first | rfl | (rw [Nat.eq_of_beq_eq_true hb]; rfl))) ?_
  refine RQ.seg 4 (pc' := 185) (L' := [some (.ref 0), some (.int (iI b)), some (.int (iI p)), some (.int (iI (p / 10))), some (.int (iI (p % 10))), some (.int (iI (cct P m10 (p % 10) b.toNat))), some (.int (iI (cct P d10 (p / 10) b.toNat))), some (.int (iI b))]) (st' := [.int (iI (cct P d10 (p / 10) b.toNat)), .int (iI 5), .ref 79]) (g1 := (HW sc (usc ar 79 (usz (usz (usz (usz (usz (ar 79) 0 (if 0 ≤ p / 10 - (W (p % 10) 0) then p / 10 - (W (p % 10) 0) else -(p / 10 - (W (p % 10) 0)))) 1 (W (p % 10) 1)) 2 (W (p % 10) 2)) 3 (W (p % 10) 3)) 4 (cct P m10 (p % 10) b.toNat))) tx oc rl ou tl, q)) rfl ?_
  refine RQ.iast (z := 5) (v := (cct P d10 (p / 10) b.toNat)) (g1 := (HW sc (usc ar 79 (usz (usz (usz (usz (usz (usz (ar 79) 0 (if 0 ≤ p / 10 - (W (p % 10) 0) then p / 10 - (W (p % 10) 0) else -(p / 10 - (W (p % 10) 0)))) 1 (W (p % 10) 1)) 2 (W (p % 10) 2)) 3 (W (p % 10) 3)) 4 (cct P m10 (p % 10) b.toNat)) 5 (cct P d10 (p / 10) b.toNat))) tx oc rl ou tl, q)) rfl rfl rfl rfl (by omega) (by decide) (HWa_79 (by funext j; unfold usc; cases hb : Nat.beq j 79 <;> first | rfl | (rw [Nat.eq_of_beq_eq_true hb]; rfl))) ?_
  refine RQ.ret rfl rfl ?_
  refine ⟨rfl, _, rfl, fun k k0 k1 => ?_⟩
  rcases (show k = 0 ∨ k = 1 ∨ k = 2 ∨ k = 3 ∨ k = 4 ∨ k = 5 by omega) with rfl | rfl | rfl | rfl | rfl | rfl <;> ((repeat (first | rw [usz_s] | rw [usz_n (by omega)])); rfl)
theorem x_ch_l {K : PK} {d : Nat} {sc : Nat → Int} {tx oc : Nat} {rl : Nat → Option Nat} {ou : Nat → Int64} {q : Nat × Nat} {Q : Option Value → PG → Prop} {nw nb : Int} {W B : Int → Int → Int} (hF : FrOK nw nb W B) {P : Int → Int} {b z : Int} (hb : 0 ≤ b ∧ b < nb) {j : Nat} {tp : List Int} (hR : RdOK tp) : ∀ (m n : Nat) (ar : Nat → Int → Int) (tl : List PO) (p v : Int) (e7 : Option Value) (hm : n + m = 99) (hX : FrX (sc 303) (sc 304) (ar 5) (ar 6) (ar 7) (ar 8) (ar 10) (ar 11) (ar 12) nw nb W B) (hpu : ∀ c, 0 ≤ c → c < b → ar 78 c = P c ∧ 0 ≤ P c ∧ P c ≤ 99) (hC : RuC tl j (rl9 tp).2.2) (hi : (p, v) = cst (wof W P b (rl9 tp).2.2) (fl (mb nw W B b) n)) (rp : (0 ≤ p ∧ p ≤ 99) ∧ (0 ≤ v ∧ v ≤ 1000000)) (hk : ∀ ar' tl', Same [79] ar ar' → TlR j (rl9 tp).2.2 tl tl' → Q (some (.int (iI (cst (wof W P b (rl9 tp).2.2) (fl (mb nw W B b) 99)).1))) (HW sc ar' tx oc rl ou tl', q)), RQ K (d + 4) 10 false (some .int) cd146 50 [some (.ref 0), some (.int (iI b)), some (.int (iI z)), some (.ref (j + 118)), some (.int (iI p)), some (.int (iI v)), some (.int (iI (n : Int))), e7] [] (HW sc ar tx oc rl ou tl, q) Q
  | 0, n, ar, tl, p, v, e7, hm, hX, hpu, hC, hi, rp, hk => by
    have hn := hF.1
    have hm1 := hX.1
    have hm2 := hX.2.1
    refine RQ.seg 2 (pc' := 54) (L' := [some (.ref 0), some (.int (iI b)), some (.int (iI z)), some (.ref (j + 118)), some (.int (iI p)), some (.int (iI v)), some (.int (iI (n : Int))), e7]) (st' := [.int (iI 99), .int (iI (n : Int))]) (g1 := (HW sc ar tx oc rl ou tl, q)) rfl ?_
    refine RQ.if2 (a := (n : Int)) (b := 99) rfl rfl rfl rfl (by omega) (by omega) (fun _ => ?_) (fun (q : ¬ 99 ≤ (n : Int)) => absurd (show 99 ≤ (n : Int) from by omega) q)
    refine RQ.seg 1 (pc' := 110) (L' := [some (.ref 0), some (.int (iI b)), some (.int (iI z)), some (.ref (j + 118)), some (.int (iI p)), some (.int (iI v)), some (.int (iI (n : Int))), e7]) (st' := [.int (iI p)]) (g1 := (HW sc ar tx oc rl ou tl, q)) rfl ?_
    refine RQ.ret rfl rfl ?_
    obtain rfl : n = 99 := by omega
    have e2 := hk ar tl Same.rf (TlR.rf hC)
    rw [← hi] at e2
    exact e2
  | m + 1, n, ar, tl, p, v, e7, hm, hX, hpu, hC, hi, rp, hk => by
    have hn := hF.1
    have hm1 := hX.1
    have hm2 := hX.2.1
    refine RQ.seg 2 (pc' := 54) (L' := [some (.ref 0), some (.int (iI b)), some (.int (iI z)), some (.ref (j + 118)), some (.int (iI p)), some (.int (iI v)), some (.int (iI (n : Int))), e7]) (st' := [.int (iI 99), .int (iI (n : Int))]) (g1 := (HW sc ar tx oc rl ou tl, q)) rfl ?_
    refine RQ.if2 (a := (n : Int)) (b := 99) rfl rfl rfl rfl (by omega) (by omega) (fun (q : 99 ≤ (n : Int)) => absurd q (show ¬ 99 ≤ (n : Int) from by omega)) (fun _ => ?_)
    refine RQ.seg 4 (pc' := 64) (L' := [some (.ref 0), some (.int (iI b)), some (.int (iI z)), some (.ref (j + 118)), some (.int (iI p)), some (.int (iI v)), some (.int (iI (n : Int))), e7]) (st' := [.int (iI (n : Int)), .int (iI b), .ref 3]) (g1 := (HW sc ar tx oc rl ou tl, q)) rfl ?_
    rcases Decidable.em (may nw W B b (n : Int)) with hmay | hmay
    · skip
      refine RQ.call rfl rfl (CallR.up (d := 2) (x_may_t (d := 0) hF hX (by omega) (by omega) hmay) (by omega)) ?_
      refine RQ.seg 4 (pc' := 74) (L' := [some (.ref 0), some (.int (iI b)), some (.int (iI z)), some (.ref (j + 118)), some (.int (iI p)), some (.int (iI v)), some (.int (iI (n : Int))), e7]) (st' := [.int (iI (n : Int)), .int (iI b), .ref 0]) (g1 := (HW sc ar tx oc rl ou tl, q)) rfl ?_
      refine RQ.callQ rfl rfl (CQ.up (x_setL (d := 0) hF hX hb (by omega) hmay hpu) (by omega)) (fun rv9 g9 hc9 => ?_)
      obtain ⟨rfl, f, rfl, hf⟩ := hc9
      have hlr := lts_r hF (P := P) hb (p := (n : Int)) (by omega) hmay
      refine RQ.seg 3 (pc' := 82) (L' := [some (.ref 0), some (.int (iI b)), some (.int (iI z)), some (.ref (j + 118)), some (.int (iI p)), some (.int (iI v)), some (.int (iI (n : Int))), e7]) (st' := [.ref 79, .ref (j + 118)]) (g1 := (HW sc (usc ar 79 f) tx oc rl ou tl, q)) rfl ?_
      obtain ⟨stk9, top9, f9, c91, c92, -⟩ := id hC
      refine RQ.callVQ rfl rfl rfl ((HWt_r tl j).trans c92) rfl rfl (CQ.up (x_worthH (d := 0) (ar := usc ar 79 f) hR hC (fun k k0 k1 => by show -1000000 ≤ f k ∧ f k ≤ 1000000; rw [hf k k0 k1]; exact hlr k)) (by omega)) (fun rv9 g9 hc9 => ?_)
      obtain ⟨rfl, tl1, rfl, hT1⟩ := hc9
      have ew : wo (usc ar 79 f 79) (rl9 tp).2.2 false [] = wof W P b (rl9 tp).2.2 (n : Int) := wo_cg (L := f) hf (rl9 tp).2.2 false [] (RdOK.b tp)
      rw [ew]
      have hwr : -1000000 ≤ wof W P b (rl9 tp).2.2 (n : Int) ∧ wof W P b (rl9 tp).2.2 (n : Int) ≤ 1000000 := wo_r (fun k _ _ => hlr k) (rl9 tp).2.2 false [] [] (RdOK.b tp) hR.w (fun _ => trivial) (fun _ => rfl)
      refine RQ.seg 3 (pc' := 91) (L' := [some (.ref 0), some (.int (iI b)), some (.int (iI z)), some (.ref (j + 118)), some (.int (iI p)), some (.int (iI v)), some (.int (iI (n : Int))), some (.int (iI (wof W P b (rl9 tp).2.2 (n : Int))))]) (st' := [.int (iI v), .int (iI (wof W P b (rl9 tp).2.2 (n : Int)))]) (g1 := (HW sc (usc ar 79 f) tx oc rl ou tl1, q)) rfl ?_
      refine RQ.if2 (a := (wof W P b (rl9 tp).2.2 (n : Int))) (b := v) rfl rfl rfl rfl (by omega) (by omega) (fun (h2 : wof W P b (rl9 tp).2.2 (n : Int) ≤ v) => ?_) (fun (h2 : ¬ wof W P b (rl9 tp).2.2 (n : Int) ≤ v) => ?_)
      · skip
        refine RQ.seg 2 (pc' := 50) (L' := [some (.ref 0), some (.int (iI b)), some (.int (iI z)), some (.ref (j + 118)), some (.int (iI p)), some (.int (iI v)), some (.int ((iI (n : Int)) + (iI 1))), some (.int (iI (wof W P b (rl9 tp).2.2 (n : Int))))]) (st' := []) (g1 := (HW sc (usc ar 79 f) tx oc rl ou tl1, q)) rfl ?_
        refine RQ.to (L' := [some (.ref 0), some (.int (iI b)), some (.int (iI z)), some (.ref (j + 118)), some (.int (iI p)), some (.int (iI v)), some (.int (iI ((n : Int) + 1))), some (.int (iI (wof W P b (rl9 tp).2.2 (n : Int))))]) (st' := []) (by simp only [iI_add, iI_sub, iI_mul, iI_neg]) rfl ?_
        refine x_ch_l hF hb hR m (n + 1) (usc ar 79 f) tl1 p v _ (by omega) hX hpu hT1.2.2 ?_ (by omega) (fun ar' tl' h1 h2 => hk ar' tl' (Same.tr (Same.us rfl Same.rf) h1) (hT1.tr h2))
        rw [fl_t (mb_t.mpr hmay), cst_app, ← hi]
        show _ = (if v < wof W P b (rl9 tp).2.2 (n : Int) then _ else _)
        first | rw [if_pos (by omega)] | rw [if_neg (by omega)]
      · skip
        refine RQ.seg 6 (pc' := 50) (L' := [some (.ref 0), some (.int (iI b)), some (.int (iI z)), some (.ref (j + 118)), some (.int (iI (n : Int))), some (.int (iI (wof W P b (rl9 tp).2.2 (n : Int)))), some (.int ((iI (n : Int)) + (iI 1))), some (.int (iI (wof W P b (rl9 tp).2.2 (n : Int))))]) (st' := []) (g1 := (HW sc (usc ar 79 f) tx oc rl ou tl1, q)) rfl ?_
        refine RQ.to (L' := [some (.ref 0), some (.int (iI b)), some (.int (iI z)), some (.ref (j + 118)), some (.int (iI (n : Int))), some (.int (iI (wof W P b (rl9 tp).2.2 (n : Int)))), some (.int (iI ((n : Int) + 1))), some (.int (iI (wof W P b (rl9 tp).2.2 (n : Int))))]) (st' := []) (by simp only [iI_add, iI_sub, iI_mul, iI_neg]) rfl ?_
        refine x_ch_l hF hb hR m (n + 1) (usc ar 79 f) tl1 (n : Int) (wof W P b (rl9 tp).2.2 (n : Int)) _ (by omega) hX hpu hT1.2.2 ?_ (by omega) (fun ar' tl' h1 h2 => hk ar' tl' (Same.tr (Same.us rfl Same.rf) h1) (hT1.tr h2))
        rw [fl_t (mb_t.mpr hmay), cst_app, ← hi]
        show _ = (if v < wof W P b (rl9 tp).2.2 (n : Int) then _ else _)
        first | rw [if_pos (by omega)] | rw [if_neg (by omega)]
    · skip
      refine RQ.call rfl rfl (CallR.up (d := 2) (x_may_f (d := 0) hF hX (by omega) (by omega) hmay) (by omega)) ?_
      refine RQ.seg 3 (pc' := 50) (L' := [some (.ref 0), some (.int (iI b)), some (.int (iI z)), some (.ref (j + 118)), some (.int (iI p)), some (.int (iI v)), some (.int ((iI (n : Int)) + (iI 1))), e7]) (st' := []) (g1 := (HW sc ar tx oc rl ou tl, q)) rfl ?_
      refine RQ.to (L' := [some (.ref 0), some (.int (iI b)), some (.int (iI z)), some (.ref (j + 118)), some (.int (iI p)), some (.int (iI v)), some (.int (iI ((n : Int) + 1))), e7]) (st' := []) (by simp only [iI_add, iI_sub, iI_mul, iI_neg]) rfl ?_
      exact x_ch_l hF hb hR m (n + 1) ar tl p v _ (by omega) hX hpu hC (by rw [fl_f (mb_f.mpr hmay)]; exact hi) rp hk
