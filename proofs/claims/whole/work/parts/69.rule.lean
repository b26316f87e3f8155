/-! reading a rule: what both readers go by; a text is fault, where, and the steps it comes to -/
abbrev RS : Type := Int × Int × List Int
/-- one after another -/
def rsq (r : RS) (k : Int → RS) : RS := if r.1 ≠ -1 then r else ((k r.2.1).1, (k r.2.1).2.1, r.2.2 ++ (k r.2.1).2.2)
def rap (r : RS) (x : Int) : RS := (r.1, r.2.1, r.2.2 ++ [x])
def rno (tp : List Int) (a : Int) : RS := (sk tp a, sk tp a, [])
/-- a byte that must stand there -/
def rex (tp : List Int) (c a : Int) : RS := if lk tp a = c then (-1, sk tp a + 1, []) else rno tp a
abbrev RF : Type := Nat → Int → Int → RS
def rAtom (tp : List Int) (f : RF) (dp a : Int) : RS := if pr (lk tp a) ≠ -1 then (-1, sk tp a + 1, [-13 - pr (lk tp a)]) else if lk tp a = 91 then (if dp < 6 then rsq (f 2 (dp + 1) (sk tp a + 1)) (rex tp 93) else rno tp a) else ((nmR tp 4 a).1, (nmR tp 4 a).2.2, [(nmR tp 4 a).2.1])
def rTl (tp : List Int) (f : RF) (dp a : Int) : RS := if lk tp a = 42 ∨ lk tp a = 47 then rsq (rap (f 0 dp (sk tp a + 1)) (if lk tp a = 42 then -3 else -4)) (f 6 dp) else (-1, sk tp a, [])
def rSl (tp : List Int) (f : RF) (dp a : Int) : RS := if lk tp a = 43 ∨ lk tp a = 45 then rsq (rap (f 1 dp (sk tp a + 1)) (if lk tp a = 43 then -1 else -2)) (f 7 dp) else (-1, sk tp a, [])
def rUnit (tp : List Int) (f : RF) (dp a : Int) : RS := if lk tp a = 33 then (if dp < 6 then rap (f 3 (dp + 1) (sk tp a + 1)) (-8) else rno tp a) else if lk tp a = 40 then (if dp < 6 then rsq (f 5 (dp + 1) (sk tp a + 1)) (rex tp 41) else rno tp a) else rsq (f 2 dp a) (f 8 dp)
def rCmp (tp : List Int) (f : RF) (dp a : Int) : RS := if pcm (lk tp a) = -1 then rno tp a else rap (f 2 dp (sk tp a + 1)) (-5 - pcm (lk tp a))
def rAl (tp : List Int) (f : RF) (dp a : Int) : RS := if lk tp a = 38 then rsq (rap (f 3 dp (sk tp a + 1)) (-9)) (f 9 dp) else (-1, sk tp a, [])
def rOl (tp : List Int) (f : RF) (dp a : Int) : RS := if lk tp a = 124 then rsq (rap (f 4 dp (sk tp a + 1)) (-10)) (f 11 dp) else (-1, sk tp a, [])
def rThen (tp : List Int) (f : RF) (nt : Nat) (a : Int) : RS := rsq (rap (rsq (f nt 0 a) (rex tp 63)) (-11)) (f 2 0)
def rBody (tp : List Int) (f : RF) (a : Int) : RS := if lk tp a = 33 ∨ lk tp a = 40 then rThen tp f 5 a else rsq (f 2 0 a) (fun b => if pcm (lk tp b) = -1 then (-1, sk tp b, []) else rThen tp f 12 b)
def rClause (tp : List Int) (f : RF) (a : Int) : RS := rap (rsq (rsq (rex tp 121 a) (rex tp 58)) (rBody tp f)) (-12)
def rText (tp : List Int) (f : RF) (a : Int) : RS := rsq (f 13 0 a) (fun b => if lk tp b = 0 then (-1, sk tp b, []) else rsq (rex tp 59 b) (f 14 0))
def rdS (tp : List Int) (f : RF) : RF
  | 0 => rAtom tp f
  | 1 => fun dp a => rsq (f 0 dp a) (f 6 dp)
  | 2 => fun dp a => rsq (f 1 dp a) (f 7 dp)
  | 3 => rUnit tp f
  | 4 => fun dp a => rsq (f 3 dp a) (f 9 dp)
  | 5 => fun dp a => rsq (f 4 dp a) (f 11 dp)
  | 6 => rTl tp f
  | 7 => rSl tp f
  | 8 => rCmp tp f
  | 9 => rAl tp f
  | 10 => fun dp a => rsq (f 8 dp a) (f 9 dp)
  | 11 => rOl tp f
  | 12 => fun dp a => rsq (f 10 dp a) (f 11 dp)
  | 13 => fun _ a => rClause tp f a
  | _ => fun _ a => rText tp f a
def rd (tp : List Int) : Nat → RF
  | 0 => fun _ _ a => rno tp a
  | m + 1 => rdS tp (rd tp m)
/-- where a reading gets: j bytes at least, s of them without a step -/
def Rg (tp : List Int) (a j s : Int) (r : RS) : Prop := (-1 ≤ r.1 ∧ r.1 ≤ (tp.length : Int)) ∧ (r.1 = -1 → a + j ≤ r.2.1 ∧ r.2.1 ≤ (tp.length : Int) ∧ (r.2.2.length : Int) + s ≤ r.2.1 - a)
theorem Rg.w {tp : List Int} {a j s j' s' : Int} {r : RS} (h : Rg tp a j s r) (hj : j' ≤ j) (hs : s' ≤ s) : Rg tp a j' s' r := ⟨h.1, fun z => by have := h.2 z; omega⟩
theorem Rg.sh {tp : List Int} {a b j s j' s' : Int} {r : RS} (h : Rg tp b j s r) (hj : a + j' ≤ b + j) (hs : a + s' ≤ b + s) : Rg tp a j' s' r := ⟨h.1, fun z => by have := h.2 z; omega⟩
theorem Rg.sq {tp : List Int} {a j s j' s' : Int} {r : RS} {k : Int → RS} (h : Rg tp a j s r) (hk : ∀ b, a + j ≤ b → b ≤ (tp.length : Int) → Rg tp b j' s' (k b)) : Rg tp a (j + j') (s + s') (rsq r k) := by
  unfold rsq
  split
  · rename_i hn
    exact ⟨h.1, fun z => absurd z hn⟩
  · rename_i hn
    have h1 := h.2 (by omega)
    have h2 := hk r.2.1 h1.1 h1.2.1
    refine ⟨h2.1, fun z => ?_⟩
    have h3 := h2.2 z
    show a + (j + j') ≤ (k r.2.1).2.1 ∧ (k r.2.1).2.1 ≤ _ ∧ ((r.2.2 ++ (k r.2.1).2.2).length : Int) + (s + s') ≤ (k r.2.1).2.1 - a
    rw [List.length_append]
    omega
theorem Rg.ap {tp : List Int} {a j s x : Int} {r : RS} (h : Rg tp a j s r) : Rg tp a j (s - 1) (rap r x) := ⟨h.1, fun z => by
  have h1 := h.2 z
  show a + j ≤ r.2.1 ∧ r.2.1 ≤ _ ∧ ((r.2.2 ++ [x]).length : Int) + (s - 1) ≤ r.2.1 - a
  rw [List.length_append]
  show a + j ≤ r.2.1 ∧ r.2.1 ≤ _ ∧ ((r.2.2.length + 1 : Nat) : Int) + (s - 1) ≤ r.2.1 - a
  omega⟩
theorem Rg.no {tp : List Int} {a : Int} (h : 0 ≤ a ∧ a ≤ (tp.length : Int)) (j s : Int) : Rg tp a j s (rno tp a) := by
  have hs := sk_r (tp := tp) h.2
  exact ⟨by show -1 ≤ sk tp a ∧ sk tp a ≤ _; omega, fun z => absurd (show sk tp a = -1 from z) (by omega)⟩
theorem Rg.st {tp : List Int} {a : Int} (h : 0 ≤ a ∧ a ≤ (tp.length : Int)) : Rg tp a 0 0 ((-1, sk tp a, []) : RS) := by
  have hs := sk_r (tp := tp) h.2
  exact ⟨by show (-1 : Int) ≤ -1 ∧ (-1 : Int) ≤ _; omega, fun _ => by show a + 0 ≤ sk tp a ∧ sk tp a ≤ _ ∧ ((0 : Nat) : Int) + 0 ≤ sk tp a - a; omega⟩
theorem Rg.ex {tp : List Int} {a c : Int} (h : 0 ≤ a ∧ a ≤ (tp.length : Int)) (hc : c ≠ 0) : Rg tp a 1 1 (rex tp c a) := by
  have hs := sk_r (tp := tp) h.2
  unfold rex
  split
  · rename_i hl
    have hp := tch_pos (tp := tp) (p := sk tp a) (by show lk tp a ≠ 0; omega)
    exact ⟨by show (-1 : Int) ≤ -1 ∧ (-1 : Int) ≤ _; omega, fun _ => by show a + 1 ≤ sk tp a + 1 ∧ sk tp a + 1 ≤ _ ∧ ((0 : Nat) : Int) + 1 ≤ sk tp a + 1 - a; omega⟩
  · exact Rg.no h 1 1
theorem nmR_c {tp : List Int} {k : Nat} {a : Int} (h : 0 ≤ a ∧ a ≤ (tp.length : Int)) (he : (nmR tp (k + 1) a).1 = -1) : a + 1 ≤ (nmR tp (k + 1) a).2.2 := by
  have hs := sk_r (tp := tp) h.2
  unfold nmR at he ⊢
  split at he
  · rename_i hd
    rw [if_pos hd]
    have hp := tch_pos (tp := tp) (p := sk tp a) (by omega)
    have h3 := nmn_r (tp := tp) k (sk tp a + 1) (0 * 10 + (tch tp (sk tp a) - 48)) (by omega) (by omega)
    show a + 1 ≤ (nmn tp (k + 1) (sk tp a) 0).2
    rw [nmn, if_pos hd]
    omega
  · have he' : sk tp a = -1 := he
    omega
/-- bytes that a sort of reading takes at least -/
def njs : Nat → Int
  | 6 => 0
  | 7 => 0
  | 9 => 0
  | 11 => 0
  | _ => 1
theorem njs_r (n : Nat) : 0 ≤ njs n ∧ njs n ≤ 1 := by unfold njs; split <;> omega
def RfOK (tp : List Int) (f : RF) : Prop := ∀ nt dp a, 0 ≤ a → a ≤ (tp.length : Int) → Rg tp a (njs nt) 0 (f nt dp a)
theorem RfOK.at {tp : List Int} {f : RF} (hf : RfOK tp f) (nt : Nat) (dp : Int) {a : Int} (h : 0 ≤ a ∧ a ≤ (tp.length : Int)) : Rg tp a (njs nt) 0 (f nt dp a) := hf nt dp a h.1 h.2
theorem lk_in {tp : List Int} {a : Int} (h : 0 ≤ a ∧ a ≤ (tp.length : Int)) (hc : lk tp a ≠ 0) : a ≤ sk tp a ∧ 0 ≤ sk tp a + 1 ∧ sk tp a + 1 ≤ (tp.length : Int) := by
  have hs := sk_r (tp := tp) h.2
  have hp := tch_pos (tp := tp) (p := sk tp a) hc
  omega
theorem Rg.nx {tp : List Int} {f : RF} (hf : RfOK tp f) {nt : Nat} {dp a x : Int} (h : 0 ≤ a ∧ a ≤ (tp.length : Int)) (hc : lk tp a ≠ 0) : Rg tp a 1 0 (rap (f nt dp (sk tp a + 1)) x) := by
  have hi := lk_in h hc
  have hn := njs_r nt
  exact (Rg.sh (hf.at nt dp (a := sk tp a + 1) (by omega)) (a := a) (j' := 1) (s' := 1) (by omega) (by omega)).ap
theorem Rg.lp {tp : List Int} {f : RF} (hf : RfOK tp f) {nt nt' : Nat} {dp a x : Int} (h : 0 ≤ a ∧ a ≤ (tp.length : Int)) (hc : lk tp a ≠ 0) : Rg tp a 0 0 (rsq (rap (f nt dp (sk tp a + 1)) x) (f nt' dp)) := by
  have hn := njs_r nt'
  exact ((Rg.nx hf h hc (x := x)).sq (fun b b0 b1 => hf.at nt' dp (by omega))).w (by omega) (by omega)
theorem Rg.s2 {tp : List Int} {f : RF} (hf : RfOK tp f) {nt nt' : Nat} {dp a : Int} (h : 0 ≤ a ∧ a ≤ (tp.length : Int)) (h1 : njs nt = 1) : Rg tp a 1 0 (rsq (f nt dp a) (f nt' dp)) := by
  have hn := njs_r nt'
  exact (Rg.sq (hf.at nt dp h) (fun b b0 b1 => hf.at nt' dp (by omega))).w (by omega) (by omega)
theorem Rg.th {tp : List Int} {f : RF} (hf : RfOK tp f) {nt : Nat} {a : Int} (h : 0 ≤ a ∧ a ≤ (tp.length : Int)) : Rg tp a 0 0 (rThen tp f nt a) := by
  have hn := njs_r nt
  have h1 : Rg tp a (njs nt + 1) (0 + 1) (rsq (f nt 0 a) (rex tp 63)) := Rg.sq (hf.at nt 0 h) (fun b b0 b1 => Rg.ex (by omega) (by omega))
  exact (Rg.sq h1.ap (fun b b0 b1 => hf.at 2 0 (by omega))).w (by show (0 : Int) ≤ njs nt + 1 + 1; omega) (by omega)
theorem rdS_ok {tp : List Int} {f : RF} (hf : RfOK tp f) : RfOK tp (rdS tp f) := by
  intro nt dp a ha hb
  have h : 0 ≤ a ∧ a ≤ (tp.length : Int) := ⟨ha, hb⟩
  have hs := sk_r (tp := tp) h.2
  unfold rdS
  split
  · show Rg tp a 1 0 (rAtom tp f dp a)
    unfold rAtom
    split
    · rename_i hp
      have hi := lk_in h ((pr_r (lk tp a)).2.2 hp)
      exact ⟨by show (-1 : Int) ≤ -1 ∧ (-1 : Int) ≤ _; omega, fun _ => by show a + 1 ≤ sk tp a + 1 ∧ sk tp a + 1 ≤ _ ∧ ((1 : Nat) : Int) + 0 ≤ sk tp a + 1 - a; omega⟩
    · split
      · rename_i hl
        have hi := lk_in h (by omega)
        split
        · have h1 : Rg tp (sk tp a + 1) (1 + 1) (0 + 1) (rsq (f 2 (dp + 1) (sk tp a + 1)) (rex tp 93)) := Rg.sq (hf.at 2 (dp + 1) (by omega)) (fun b b0 b1 => Rg.ex (by have b0' : sk tp a + 1 + 1 ≤ b := b0; omega) (by omega))
          exact h1.sh (by omega) (by omega)
        · exact Rg.no h 1 0
      · have h1 := nmR_r (tp := tp) (k := 4) (by omega) h
        exact ⟨h1.2.2, fun z => by have z2 : a + 1 ≤ (nmR tp 4 a).2.2 := nmR_c (k := 3) h z; show a + 1 ≤ (nmR tp 4 a).2.2 ∧ (nmR tp 4 a).2.2 ≤ _ ∧ ((1 : Nat) : Int) + 0 ≤ (nmR tp 4 a).2.2 - a; omega⟩
  · exact Rg.s2 hf h rfl
  · exact Rg.s2 hf h rfl
  · show Rg tp a 1 0 (rUnit tp f dp a)
    unfold rUnit
    split
    · split
      · exact Rg.nx hf h (by omega)
      · exact Rg.no h 1 0
    · split
      · rename_i hl
        have hi := lk_in h (by omega)
        split
        · have h1 : Rg tp (sk tp a + 1) (1 + 1) (0 + 1) (rsq (f 5 (dp + 1) (sk tp a + 1)) (rex tp 41)) := Rg.sq (hf.at 5 (dp + 1) (by omega)) (fun b b0 b1 => Rg.ex (by have b0' : sk tp a + 1 + 1 ≤ b := b0; omega) (by omega))
          exact h1.sh (by omega) (by omega)
        · exact Rg.no h 1 0
      · exact Rg.s2 hf h rfl
  · exact Rg.s2 hf h rfl
  · exact Rg.s2 hf h rfl
  · show Rg tp a 0 0 (rTl tp f dp a)
    unfold rTl
    split
    · exact Rg.lp hf h (by omega)
    · exact Rg.st h
  · show Rg tp a 0 0 (rSl tp f dp a)
    unfold rSl
    split
    · exact Rg.lp hf h (by omega)
    · exact Rg.st h
  · show Rg tp a 1 0 (rCmp tp f dp a)
    unfold rCmp
    split
    · exact Rg.no h 1 0
    · rename_i hp
      exact Rg.nx hf h ((pcm_r (lk tp a)).2.2 hp)
  · show Rg tp a 0 0 (rAl tp f dp a)
    unfold rAl
    split
    · exact Rg.lp hf h (by omega)
    · exact Rg.st h
  · exact Rg.s2 hf h rfl
  · show Rg tp a 0 0 (rOl tp f dp a)
    unfold rOl
    split
    · exact Rg.lp hf h (by omega)
    · exact Rg.st h
  · exact Rg.s2 hf h rfl
  · show Rg tp a 1 0 (rClause tp f a)
    unfold rClause
    have h1 : Rg tp a (1 + 1) (1 + 1) (rsq (rex tp 121 a) (rex tp 58)) := Rg.sq (Rg.ex h (by omega)) (fun b b0 b1 => Rg.ex (by omega) (by omega))
    refine (Rg.ap (Rg.sq h1 (j' := 0) (s' := 0) (fun b b0 b1 => ?_))).w (by omega) (by omega)
    unfold rBody
    split
    · exact Rg.th hf (by omega)
    · refine (Rg.sq (hf.at 2 0 (by omega)) (j' := 0) (s' := 0) (fun e e0 e1 => ?_)).w (by show (0 : Int) ≤ 1 + 0; omega) (by omega)
      have e0' : b + 1 ≤ e := e0
      split
      · exact Rg.st (by omega)
      · exact Rg.th hf (by omega)
  · rename_i hne
    have hn := njs_r nt
    refine Rg.w (j := 1) (s := 0) ?_ hn.2 (Int.le_refl _)
    unfold rText
    refine (Rg.sq (hf.at 13 0 h) (j' := 0) (s' := 0) (fun b b0 b1 => ?_)).w (by show (1 : Int) ≤ 1 + 0; omega) (by omega)
    have b0' : a + 1 ≤ b := b0
    split
    · exact Rg.st (by omega)
    · exact (Rg.sq (Rg.ex (by omega) (by omega)) (fun e e0 e1 => hf.at 14 0 (by omega))).w (by show (0 : Int) ≤ 1 + 1; omega) (by omega)
theorem rd_ok {tp : List Int} : ∀ m, RfOK tp (rd tp m)
  | 0 => fun nt dp a ha hb => Rg.no ⟨ha, hb⟩ _ _
  | m + 1 => rdS_ok (rd_ok m)
/-- the first wrong byte of a rule, and its steps -/
def rl9 (tp : List Int) : RS := rd tp 3000 14 0 0
def rlF (tp : List Int) : Int := (rl9 tp).1
/-- how much reading is left -/
def nrk : Nat → Int
  | 0 => 1
  | 1 => 2
  | 2 => 3
  | 3 => 4
  | 4 => 5
  | 5 => 6
  | 10 => 2
  | 12 => 3
  | 14 => 2
  | _ => 1
def Fu (tp : List Int) (m nt : Nat) (a : Int) : Prop := 16 * ((tp.length : Int) - a) + nrk nt ≤ m
/-- blanks ahead do not count -/
theorem lk_sk {tp : List Int} {a : Int} : lk tp (sk tp a) = lk tp a := by unfold lk; rw [sk_sk]
theorem nmR_sk {tp : List Int} {k : Nat} {a : Int} : nmR tp k (sk tp a) = nmR tp k a := by unfold nmR; rw [sk_sk]
theorem rno_sk {tp : List Int} {a : Int} : rno tp (sk tp a) = rno tp a := by unfold rno; rw [sk_sk]
theorem rex_sk {tp : List Int} {c a : Int} : rex tp c (sk tp a) = rex tp c a := by unfold rex; rw [lk_sk, rno_sk, sk_sk]
theorem rdS_sk {tp : List Int} {f : RF} (hf : ∀ nt dp a, f nt dp (sk tp a) = f nt dp a) (nt : Nat) (dp a : Int) : rdS tp f nt dp (sk tp a) = rdS tp f nt dp a := by
  unfold rdS
  split
  · show rAtom tp f dp (sk tp a) = rAtom tp f dp a; unfold rAtom; rw [lk_sk, nmR_sk, rno_sk, sk_sk]
  · show rsq (f 0 dp (sk tp a)) _ = _; rw [hf]
  · show rsq (f 1 dp (sk tp a)) _ = _; rw [hf]
  · show rUnit tp f dp (sk tp a) = rUnit tp f dp a; unfold rUnit; rw [lk_sk, rno_sk, sk_sk, hf]
  · show rsq (f 3 dp (sk tp a)) _ = _; rw [hf]
  · show rsq (f 4 dp (sk tp a)) _ = _; rw [hf]
  · show rTl tp f dp (sk tp a) = rTl tp f dp a; unfold rTl; rw [lk_sk, sk_sk]
  · show rSl tp f dp (sk tp a) = rSl tp f dp a; unfold rSl; rw [lk_sk, sk_sk]
  · show rCmp tp f dp (sk tp a) = rCmp tp f dp a; unfold rCmp; rw [lk_sk, rno_sk, sk_sk]
  · show rAl tp f dp (sk tp a) = rAl tp f dp a; unfold rAl; rw [lk_sk, sk_sk]
  · show rsq (f 8 dp (sk tp a)) _ = _; rw [hf]
  · show rOl tp f dp (sk tp a) = rOl tp f dp a; unfold rOl; rw [lk_sk, sk_sk]
  · show rsq (f 10 dp (sk tp a)) _ = _; rw [hf]
  · show rClause tp f (sk tp a) = rClause tp f a; unfold rClause; rw [rex_sk]
  · show rText tp f (sk tp a) = rText tp f a; unfold rText; rw [hf]
theorem rd_sk {tp : List Int} : ∀ (m nt : Nat) (dp a : Int), rd tp m nt dp (sk tp a) = rd tp m nt dp a
  | 0, nt, dp, a => rno_sk
  | m + 1, nt, dp, a => rdS_sk (rd_sk m) nt dp a
/-- steps ahead of a reading -/
def pre (c : List Int) (r : RS) : RS := (r.1, r.2.1, c ++ r.2.2)
theorem rsq_p {r : RS} {k : Int → RS} (h : r.1 = -1) : rsq r k = pre r.2.2 (k r.2.1) := if_neg (fun z => z h)
theorem rsq_1 {a : Int} {c : List Int} {k : Int → RS} : rsq (-1, a, c) k = pre c (k a) := if_neg (fun z => z rfl)
theorem pre_ap {c : List Int} {r : RS} {x : Int} : rap (pre c r) x = pre c (rap r x) := by unfold rap pre; rw [List.append_assoc]
theorem pre_sq {c : List Int} {r : RS} {k : Int → RS} : rsq (pre c r) k = pre c (rsq r k) := by
  unfold rsq
  by_cases h : r.1 ≠ -1
  · rw [if_pos h]; exact if_pos h
  · rw [if_neg h]
    refine (if_neg h).trans ?_
    unfold pre
    rw [List.append_assoc]
theorem rsq_a {r : RS} {k k' : Int → RS} : rsq (rsq r k) k' = rsq r (fun a => rsq (k a) k') := by
  by_cases h : r.1 = -1
  · rw [rsq_p h, rsq_p h, pre_sq]
  · have e1 : rsq r k = r := if_pos h
    have e2 : rsq r (fun a => rsq (k a) k') = r := if_pos h
    rw [e1, e2]
    exact if_pos h
theorem pre_sl {tp : List Int} {b j : Int} {c : List Int} {r : RS} (h : Rg tp b j 0 r) (hc : (c.length : Int) + 1 ≤ b) (z : (pre c r).1 = -1) : ((pre c r).2.2.length : Int) + 1 ≤ (pre c r).2.1 := by
  have h1 := h.2 z
  show ((c ++ r.2.2).length : Int) + 1 ≤ r.2.1
  rw [List.length_append]
  omega
