/-! steps of a rule: what they come to on a stack, and that a good reading's steps go through -/
def wi (v : Int) : Int := if v < -1000000 then -1000000 else if 1000000 < v then 1000000 else v
theorem wi_r (v : Int) : -1000000 ≤ wi v ∧ wi v ≤ 1000000 := by unfold wi; split; (· omega); split <;> omega
def jn (s l r : Int) : Int := wi (if s = -1 then l + r else if s = -2 then l - r else if s = -3 then l * r else if s = -4 then (if r = 0 then 0 else l.tdiv r) else if s = -5 then (if l = r then 1 else 0) else if s = -6 then (if l < r then 1 else 0) else if s = -7 then (if r < l then 1 else 0) else if s = -9 then (if l = 1 ∧ r = 1 then 1 else 0) else (if l = 1 ∨ r = 1 then 1 else 0))
def ev1 (L : Int → Int) (s : Int) (st : List Int) : List Int := if 0 ≤ s then s :: st else if s ≤ -13 then L (-13 - s) :: st else if s = -8 then (1 - st.headD 0) :: st.tail else jn s (st.tail.headD 0) (st.headD 0) :: st.tail.tail
def ev (L : Int → Int) : List Int → List Int → List Int
  | [], st => st
  | s :: c, st => ev L c (ev1 L s st)
theorem ev_app {L : Int → Int} : ∀ (c d st : List Int), ev L (c ++ d) st = ev L d (ev L c st)
  | [], d, st => rfl
  | s :: c, d, st => ev_app c d (ev1 L s st)
/-- sorts of what waits on the stack: true for a condition's -/
def ty1 (s : Int) (ts : List Bool) : Option (List Bool) :=
  if 0 ≤ s ∨ s ≤ -13 then (if ts.length < 64 then some (false :: ts) else none)
  else match ts with
    | true :: ts' => if s = -8 then some (true :: ts') else (match ts' with
      | true :: t2 => if s = -9 ∨ s = -10 then some (true :: t2) else none
      | _ => none)
    | false :: false :: t2 => if -4 ≤ s then some (false :: t2) else if -7 ≤ s then some (true :: t2) else none
    | _ => none
def tyr : List Int → List Bool → Option (List Bool)
  | [], ts => some ts
  | s :: c, ts => (ty1 s ts).bind (tyr c)
theorem tyr_app : ∀ (c d : List Int) (ts : List Bool), tyr (c ++ d) ts = (tyr c ts).bind (tyr d)
  | [], d, ts => rfl
  | s :: c, d, ts => by
    show (ty1 s ts).bind (tyr (c ++ d)) = ((ty1 s ts).bind (tyr c)).bind (tyr d)
    cases ty1 s ts with
    | none => rfl
    | some t => exact tyr_app c d t
theorem tyr_2 {c d : List Int} {ts t1 t2 : List Bool} (h1 : tyr c ts = some t1) (h2 : tyr d t1 = some t2) : tyr (c ++ d) ts = some t2 := by
  rw [tyr_app, h1]; exact h2
theorem ty_push {s : Int} {ts : List Bool} (hs : 0 ≤ s ∨ s ≤ -13) (h : ts.length < 64) : tyr [s] ts = some (false :: ts) := by
  show (ty1 s ts).bind (tyr []) = _
  unfold ty1
  rw [if_pos hs, if_pos h]
  rfl
theorem ty_num {s : Int} {ts : List Bool} (hs : -4 ≤ s ∧ s < 0) : tyr [s] (false :: false :: ts) = some (false :: ts) := by
  show (ty1 s (false :: false :: ts)).bind (tyr []) = _
  unfold ty1
  rw [if_neg (by omega)]
  show (if -4 ≤ s then some (false :: ts) else if -7 ≤ s then some (true :: ts) else none).bind (tyr []) = _
  rw [if_pos (by omega)]
  rfl
theorem ty_cmp {s : Int} {ts : List Bool} (hs : -7 ≤ s ∧ s ≤ -5) : tyr [s] (false :: false :: ts) = some (true :: ts) := by
  show (ty1 s (false :: false :: ts)).bind (tyr []) = _
  unfold ty1
  rw [if_neg (by omega)]
  show (if -4 ≤ s then some (false :: ts) else if -7 ≤ s then some (true :: ts) else none).bind (tyr []) = _
  rw [if_neg (by omega), if_pos (by omega)]
  rfl
theorem ty_not {ts : List Bool} : tyr [-8] (true :: ts) = some (true :: ts) := rfl
theorem ty_and {s : Int} {ts : List Bool} (hs : s = -9 ∨ s = -10) : tyr [s] (true :: true :: ts) = some (true :: ts) := by
  rcases hs with rfl | rfl <;> rfl
/-- what stands on the stack before and behind a sort of reading, and how much room it needs -/
def tin : Nat → List Bool
  | 6 => [false]
  | 7 => [false]
  | 8 => [false]
  | 10 => [false]
  | 12 => [false]
  | 9 => [true]
  | 11 => [true]
  | _ => []
def tou : Nat → Bool
  | 0 => false
  | 1 => false
  | 2 => false
  | 6 => false
  | 7 => false
  | _ => true
def thb : Nat → Int
  | 0 => 1
  | 1 => 2
  | 2 => 3
  | 3 => 4
  | 4 => 5
  | 5 => 6
  | 6 => 2
  | 7 => 3
  | 8 => 4
  | 9 => 5
  | 10 => 5
  | _ => 6
def TyOK (tp : List Int) (f : RF) : Prop := ∀ nt dp a, nt ≤ 12 → 0 ≤ a → a ≤ (tp.length : Int) → 0 ≤ dp → dp ≤ 6 → (f nt dp a).1 = -1 → ∀ ts : List Bool, (ts.length : Int) + thb nt + 2 * (6 - dp) ≤ 64 → tyr (f nt dp a).2.2 (tin nt ++ ts) = some (tou nt :: ts)
theorem rsq_i {r : RS} {k : Int → RS} (h : (rsq r k).1 = -1) : r.1 = -1 ∧ (k r.2.1).1 = -1 ∧ (rsq r k).2.2 = r.2.2 ++ (k r.2.1).2.2 := by
  rcases Decidable.em (r.1 = -1) with he | hE
  · rw [rsq_p he] at h ⊢
    exact ⟨he, h, rfl⟩
  · rw [rsq_b (r := r) hE] at h
    exact absurd h hE
theorem ty_s2 {tp : List Int} {f : RF} (hf : RfOK tp f) (ht : TyOK tp f) {n1 n2 : Nat} {dp a : Int} (l1 : n1 ≤ 12) (l2 : n2 ≤ 12) (ha : 0 ≤ a ∧ a ≤ (tp.length : Int)) (hd : 0 ≤ dp ∧ dp ≤ 6) (z : (rsq (f n1 dp a) (f n2 dp)).1 = -1) {ts : List Bool} (b1 : (ts.length : Int) + thb n1 + 2 * (6 - dp) ≤ 64) (b2 : (ts.length : Int) + thb n2 + 2 * (6 - dp) ≤ 64) (hm : tin n2 = [tou n1]) : tyr (rsq (f n1 dp a) (f n2 dp)).2.2 (tin n1 ++ ts) = some (tou n2 :: ts) := by
  obtain ⟨z1, z2, z3⟩ := rsq_i z
  have hg := (hf.at n1 dp ha).2 z1
  have hn := njs_r n1
  rw [z3]
  refine tyr_2 (ht n1 dp a l1 ha.1 ha.2 hd.1 hd.2 z1 ts b1) ?_
  have h2 := ht n2 dp _ l2 (by omega) hg.2.1 hd.1 hd.2 z2 ts b2
  rw [hm] at h2
  exact h2
theorem ty_lp {tp : List Int} {f : RF} (hf : RfOK tp f) (ht : TyOK tp f) {n1 n2 : Nat} {dp a x : Int} (l1 : n1 ≤ 12) (l2 : n2 ≤ 12) (ha : 0 ≤ a ∧ a ≤ (tp.length : Int)) (hc : lk tp a ≠ 0) (hd : 0 ≤ dp ∧ dp ≤ 6) (z : (rsq (rap (f n1 dp (sk tp a + 1)) x) (f n2 dp)).1 = -1) {ts : List Bool} {b : Bool} (b1 : ((b :: ts).length : Int) + thb n1 + 2 * (6 - dp) ≤ 64) (b2 : (ts.length : Int) + thb n2 + 2 * (6 - dp) ≤ 64) (h0 : tin n1 = []) (hm : tin n2 = [b]) (hx : tyr [x] (tou n1 :: b :: ts) = some (b :: ts)) : tyr (rsq (rap (f n1 dp (sk tp a + 1)) x) (f n2 dp)).2.2 (b :: ts) = some (tou n2 :: ts) := by
  obtain ⟨z1, z2, z3⟩ := rsq_i z
  have hi := lk_in ha hc
  have z1' : (f n1 dp (sk tp a + 1)).1 = -1 := z1
  have hg := (hf.at n1 dp (a := sk tp a + 1) (by omega)).2 z1'
  have hn := njs_r n1
  rw [z3]
  have h1 := ht n1 dp (sk tp a + 1) l1 (by omega) (by omega) hd.1 hd.2 z1' (b :: ts) b1
  rw [h0] at h1
  refine tyr_2 (tyr_2 h1 hx) ?_
  have h2 := ht n2 dp _ l2 (show 0 ≤ (rap (f n1 dp (sk tp a + 1)) x).2.1 by show 0 ≤ (f n1 dp (sk tp a + 1)).2.1; omega) hg.2.1 hd.1 hd.2 z2 ts b2
  rw [hm] at h2
  exact h2
theorem rex_c {tp : List Int} {c a : Int} : (rex tp c a).2.2 = [] := by unfold rex rno; split <;> rfl
theorem rdS_ty {tp : List Int} {f : RF} (hf : RfOK tp f) (ht : TyOK tp f) : TyOK tp (rdS tp f) := by
  intro nt dp a hnt ha0 ha1 hd0 hd1 z ts hb
  have ha : 0 ≤ a ∧ a ≤ (tp.length : Int) := ⟨ha0, ha1⟩
  have hd : 0 ≤ dp ∧ dp ≤ 6 := ⟨hd0, hd1⟩
  have hln : ∀ b : Bool, ((b :: ts).length : Int) = (ts.length : Int) + 1 := fun b => rfl
  rcases (show nt = 0 ∨ nt = 1 ∨ nt = 2 ∨ nt = 3 ∨ nt = 4 ∨ nt = 5 ∨ nt = 6 ∨ nt = 7 ∨ nt = 8 ∨ nt = 9 ∨ nt = 10 ∨ nt = 11 ∨ nt = 12 by omega) with rfl | rfl | rfl | rfl | rfl | rfl | rfl | rfl | rfl | rfl | rfl | rfl | rfl
  · replace hb : (ts.length : Int) + 1 + 2 * (6 - dp) ≤ 64 := hb
    replace z : (rAtom tp f dp a).1 = -1 := z
    show tyr (rAtom tp f dp a).2.2 ts = some (false :: ts)
    have hp := pr_r (lk tp a)
    unfold rAtom at z ⊢
    by_cases c1 : pr (lk tp a) ≠ -1
    · rw [if_pos c1] at z ⊢
      exact ty_push (by omega) (by omega)
    · rw [if_neg c1] at z ⊢
      by_cases c2 : lk tp a = 91
      · have hi := lk_in ha (by omega)
        rw [if_pos c2] at z ⊢
        by_cases c3 : dp < 6
        · rw [if_pos c3] at z ⊢
          obtain ⟨z1, z2, z3⟩ := rsq_i z
          rw [z3, rex_c, List.append_nil]
          exact ht 2 (dp + 1) (sk tp a + 1) (by omega) (by omega) (by omega) (by omega) (by omega) z1 ts (by show (ts.length : Int) + 3 + 2 * (6 - (dp + 1)) ≤ 64; omega)
        · rw [if_neg c3] at z
          have hs := sk_r (tp := tp) ha.2
          exact absurd (show sk tp a = -1 from z) (by omega)
      · rw [if_neg c2]
        have hn := nmR_r (tp := tp) (k := 4) (by omega) ha
        exact ty_push (Or.inl hn.2.1.1) (by omega)
  · exact ty_s2 hf ht (by omega) (by omega) ha hd z (show (ts.length : Int) + 1 + 2 * (6 - dp) ≤ 64 by replace hb : (ts.length : Int) + 2 + 2 * (6 - dp) ≤ 64 := hb; omega) hb rfl
  · exact ty_s2 hf ht (by omega) (by omega) ha hd z (show (ts.length : Int) + 2 + 2 * (6 - dp) ≤ 64 by replace hb : (ts.length : Int) + 3 + 2 * (6 - dp) ≤ 64 := hb; omega) hb rfl
  · replace hb : (ts.length : Int) + 4 + 2 * (6 - dp) ≤ 64 := hb
    replace z : (rUnit tp f dp a).1 = -1 := z
    show tyr (rUnit tp f dp a).2.2 ts = some (true :: ts)
    have hs := sk_r (tp := tp) ha.2
    unfold rUnit at z ⊢
    by_cases c1 : lk tp a = 33
    · have hi := lk_in ha (by omega)
      rw [if_pos c1] at z ⊢
      by_cases c3 : dp < 6
      · rw [if_pos c3] at z ⊢
        exact tyr_2 (ht 3 (dp + 1) (sk tp a + 1) (by omega) (by omega) (by omega) (by omega) (by omega) z ts (by show (ts.length : Int) + 4 + 2 * (6 - (dp + 1)) ≤ 64; omega)) ty_not
      · rw [if_neg c3] at z
        exact absurd (show sk tp a = -1 from z) (by omega)
    · rw [if_neg c1] at z ⊢
      by_cases c2 : lk tp a = 40
      · have hi := lk_in ha (by omega)
        rw [if_pos c2] at z ⊢
        by_cases c3 : dp < 6
        · rw [if_pos c3] at z ⊢
          obtain ⟨z1, z2, z3⟩ := rsq_i z
          rw [z3, rex_c, List.append_nil]
          exact ht 5 (dp + 1) (sk tp a + 1) (by omega) (by omega) (by omega) (by omega) (by omega) z1 ts (by show (ts.length : Int) + 6 + 2 * (6 - (dp + 1)) ≤ 64; omega)
        · rw [if_neg c3] at z
          exact absurd (show sk tp a = -1 from z) (by omega)
      · rw [if_neg c2] at z ⊢
        exact ty_s2 hf ht (n1 := 2) (n2 := 8) (by omega) (by omega) ha hd z (show (ts.length : Int) + 3 + 2 * (6 - dp) ≤ 64 by omega) (show (ts.length : Int) + 4 + 2 * (6 - dp) ≤ 64 by omega) rfl
  · exact ty_s2 hf ht (by omega) (by omega) ha hd z (show (ts.length : Int) + 4 + 2 * (6 - dp) ≤ 64 by replace hb : (ts.length : Int) + 5 + 2 * (6 - dp) ≤ 64 := hb; omega) hb rfl
  · exact ty_s2 hf ht (by omega) (by omega) ha hd z (show (ts.length : Int) + 5 + 2 * (6 - dp) ≤ 64 by replace hb : (ts.length : Int) + 6 + 2 * (6 - dp) ≤ 64 := hb; omega) hb rfl
  · replace hb : (ts.length : Int) + 2 + 2 * (6 - dp) ≤ 64 := hb
    replace z : (rTl tp f dp a).1 = -1 := z
    show tyr (rTl tp f dp a).2.2 (false :: ts) = some (false :: ts)
    unfold rTl at z ⊢
    by_cases c1 : lk tp a = 42 ∨ lk tp a = 47
    · rw [if_pos c1] at z ⊢
      exact ty_lp hf ht (n1 := 0) (n2 := 6) (by omega) (by omega) ha (by omega) hd z (by rw [hln]; show (ts.length : Int) + 1 + 1 + 2 * (6 - dp) ≤ 64; omega) (show (ts.length : Int) + 2 + 2 * (6 - dp) ≤ 64 by omega) rfl rfl (ty_num (by split <;> omega))
    · rw [if_neg c1]; rfl
  · replace hb : (ts.length : Int) + 3 + 2 * (6 - dp) ≤ 64 := hb
    replace z : (rSl tp f dp a).1 = -1 := z
    show tyr (rSl tp f dp a).2.2 (false :: ts) = some (false :: ts)
    unfold rSl at z ⊢
    by_cases c1 : lk tp a = 43 ∨ lk tp a = 45
    · rw [if_pos c1] at z ⊢
      exact ty_lp hf ht (n1 := 1) (n2 := 7) (by omega) (by omega) ha (by omega) hd z (by rw [hln]; show (ts.length : Int) + 1 + 2 + 2 * (6 - dp) ≤ 64; omega) (show (ts.length : Int) + 3 + 2 * (6 - dp) ≤ 64 by omega) rfl rfl (ty_num (by split <;> omega))
    · rw [if_neg c1]; rfl
  · replace hb : (ts.length : Int) + 4 + 2 * (6 - dp) ≤ 64 := hb
    replace z : (rCmp tp f dp a).1 = -1 := z
    show tyr (rCmp tp f dp a).2.2 (false :: ts) = some (true :: ts)
    have hs := sk_r (tp := tp) ha.2
    have hp := pcm_r (lk tp a)
    unfold rCmp at z ⊢
    by_cases c1 : pcm (lk tp a) = -1
    · rw [if_pos c1] at z
      exact absurd (show sk tp a = -1 from z) (by omega)
    · rw [if_neg c1] at z ⊢
      have hi := lk_in ha (hp.2.2 c1)
      exact tyr_2 (ht 2 dp (sk tp a + 1) (by omega) (by omega) (by omega) (by omega) (by omega) z (false :: ts) (by rw [hln]; show (ts.length : Int) + 1 + 3 + 2 * (6 - dp) ≤ 64; omega)) (ty_cmp (by omega))
  · replace hb : (ts.length : Int) + 5 + 2 * (6 - dp) ≤ 64 := hb
    replace z : (rAl tp f dp a).1 = -1 := z
    show tyr (rAl tp f dp a).2.2 (true :: ts) = some (true :: ts)
    unfold rAl at z ⊢
    by_cases c1 : lk tp a = 38
    · rw [if_pos c1] at z ⊢
      exact ty_lp hf ht (n1 := 3) (n2 := 9) (by omega) (by omega) ha (by omega) hd z (by rw [hln]; show (ts.length : Int) + 1 + 4 + 2 * (6 - dp) ≤ 64; omega) (show (ts.length : Int) + 5 + 2 * (6 - dp) ≤ 64 by omega) rfl rfl (ty_and (by omega))
    · rw [if_neg c1]; rfl
  · exact ty_s2 hf ht (n1 := 8) (n2 := 9) (by omega) (by omega) ha hd z (show (ts.length : Int) + 4 + 2 * (6 - dp) ≤ 64 by replace hb : (ts.length : Int) + 5 + 2 * (6 - dp) ≤ 64 := hb; omega) hb rfl
  · replace hb : (ts.length : Int) + 6 + 2 * (6 - dp) ≤ 64 := hb
    replace z : (rOl tp f dp a).1 = -1 := z
    show tyr (rOl tp f dp a).2.2 (true :: ts) = some (true :: ts)
    unfold rOl at z ⊢
    by_cases c1 : lk tp a = 124
    · rw [if_pos c1] at z ⊢
      exact ty_lp hf ht (n1 := 4) (n2 := 11) (by omega) (by omega) ha (by omega) hd z (by rw [hln]; show (ts.length : Int) + 1 + 5 + 2 * (6 - dp) ≤ 64; omega) (show (ts.length : Int) + 6 + 2 * (6 - dp) ≤ 64 by omega) rfl rfl (ty_and (by omega))
    · rw [if_neg c1]; rfl
  · exact ty_s2 hf ht (n1 := 10) (n2 := 11) (by omega) (by omega) ha hd z (show (ts.length : Int) + 5 + 2 * (6 - dp) ≤ 64 by replace hb : (ts.length : Int) + 6 + 2 * (6 - dp) ≤ 64 := hb; omega) hb rfl
theorem rd_ty {tp : List Int} : ∀ m, TyOK tp (rd tp m)
  | 0 => fun nt dp a _ ha0 ha1 _ _ z ts _ => by
    have hs := sk_r (tp := tp) ha1
    exact absurd (show sk tp a = -1 from z) (by omega)
  | m + 1 => rdS_ty (rd_ok m) (rd_ty m)
