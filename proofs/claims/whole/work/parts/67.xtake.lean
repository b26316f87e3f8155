/-! a front that is read; the class takes it, by wip/tools -/
/-! a front that is read: its numbers are in their bounds; the class takes it -/
def Wn (n : Int) (lo hi v : Int → Int) : Prop := ∀ j, 0 ≤ j → j < n → lo j ≤ v j ∧ v j ≤ hi j
theorem its_w {pos lo hi : Int → Int} {tp : List Int} {n : Int} (hp : ∀ c, -1 ≤ pos c ∧ pos c ≤ 3 ∧ (pos c ≠ -1 → c ≠ 0)) : ∀ (m : Nat) (t a : Int) (v : Int → Int), (0 ≤ a ∧ a ≤ (tp.length : Int)) → Wn n lo hi v → Wn n lo hi (its pos lo hi tp m t a v).2.2
  | 0, t, a, v, h, hw => hw
  | m + 1, t, a, v, h, hw => by
    have hs := sk_r (tp := tp) h.2
    have h1 := hp (lk tp a)
    rw [its]
    split
    · exact hw
    · split
      · exact hw
      · rename_i hne hbt
        have h2 := tch_pos (tp := tp) (p := sk tp a) (h1.2.2 hne)
        have h3 := itR_r (tp := tp) (lo := lo (pos (lk tp a))) (hi := hi (pos (lk tp a))) (a := sk tp a + 1) (by omega)
        split
        · exact hw
        · refine its_w hp m _ _ _ (by omega) (fun j j0 j1 => ?_)
          by_cases ej : j = pos (lk tp a)
          · rw [ej, usz_s]; exact h3.2.2.2 (by omega)
          · rw [usz_n ej]; exact hw j j0 j1
def FvW (S : FS) : Prop := (∀ w, 0 ≤ w → w < fW S → Wn 4 kc6 kc7 (gW S w)) ∧ (∀ b, 0 ≤ b → b < fB S → Wn 3 kc9 kc10 (gB S b)) ∧ Wn 4 kc11 kc12 (gL S)
theorem wn5 : Wn 4 kc6 kc7 kc5 := fun j j0 j1 => by rcases (show j = 0 ∨ j = 1 ∨ j = 2 ∨ j = 3 by omega) with rfl | rfl | rfl | rfl <;> decide
theorem wn8 : Wn 3 kc9 kc10 kc8 := fun j j0 j1 => by rcases (show j = 0 ∨ j = 1 ∨ j = 2 by omega) with rfl | rfl | rfl <;> decide
theorem wn4 : Wn 4 kc11 kc12 kc4 := fun j j0 j1 => by rcases (show j = 0 ∨ j = 1 ∨ j = 2 ∨ j = 3 by omega) with rfl | rfl | rfl | rfl <;> decide
theorem clz_v {tp : List Int} {S : FS} (h : FsOK tp S) (hv : FvW S) : FvW (cls tp S) := by
  have h1 := h.1
  have hs := sk_r (tp := tp) h1.2
  unfold cls
  by_cases c1 : lk tp (fA S) = 119 ∧ fW S < 4
  · have hp := tch_pos (tp := tp) (p := sk tp (fA S)) (by show lk tp (fA S) ≠ 0; omega)
    rw [if_pos c1]
    refine ⟨fun w w0 w1 => ?_, hv.2⟩
    have w1' : w < fW S + 1 := w1
    show Wn 4 kc6 kc7 (usf (gW S) (fW S) _ w)
    by_cases ew : w = fW S
    · rw [ew, usf_s]; exact its_w pw_r 5 0 _ kc5 (by omega) wn5
    · rw [usf_n ew]; exact hv.1 w w0 (by omega)
  · rw [if_neg c1]
    by_cases c2 : lk tp (fA S) = 98 ∧ fB S < 3
    · have hp := tch_pos (tp := tp) (p := sk tp (fA S)) (by show lk tp (fA S) ≠ 0; omega)
      rw [if_pos c2]
      refine ⟨hv.1, fun w w0 w1 => ?_, hv.2.2⟩
      have w1' : w < fB S + 1 := w1
      show Wn 3 kc9 kc10 (usf (gB S) (fB S) _ w)
      by_cases ew : w = fB S
      · rw [ew, usf_s]; exact its_w (fun c => ⟨(pb_r c).1, by have := (pb_r c).2.1; omega, (pb_r c).2.2⟩) 4 0 _ kc8 (by omega) wn8
      · rw [usf_n ew]; exact hv.2.1 w w0 (by omega)
    · rw [if_neg c2]
      by_cases c3 : lk tp (fA S) = 108 ∧ fL S = 0
      · have hp := tch_pos (tp := tp) (p := sk tp (fA S)) (by show lk tp (fA S) ≠ 0; omega)
        rw [if_pos c3]
        exact ⟨hv.1, hv.2.1, its_w pl_r 5 0 _ kc4 (by omega) wn4⟩
      · rw [if_neg c3]
        exact hv
theorem frn_v {tp : List Int} : ∀ (m : Nat) (S : FS), FsOK tp S → FvW S → FvW (frn tp m S)
  | 0, S, h, hv => hv
  | m + 1, S, h, hv => by
    have hT := (clz_ok h).1.1
    have hv' := clz_v h hv
    have hs := sk_r (tp := tp) hT.1.2
    have h1 := hT.1
    rw [frn]
    split
    · exact hv'
    · split
      · exact hv'
      · split
        · rename_i h59
          have hp := tch_pos (tp := tp) (p := sk tp (fA (cls tp S))) (by show lk tp (fA (cls tp S)) ≠ 0; omega)
          exact frn_v m _ (hT.at (by omega)) hv'
        · exact hv'
theorem fr0_ok {tp : List Int} : FsOK tp fr0 := ⟨⟨Int.le_refl _, by show (0 : Int) ≤ _; omega⟩, ⟨Int.le_refl _, by show (0 : Int) ≤ 4; omega⟩, ⟨Int.le_refl _, by show (0 : Int) ≤ 3; omega⟩, ⟨Int.le_refl _, by show (0 : Int) ≤ 1; omega⟩, fun _ => rfl⟩
theorem fr9_v (tp : List Int) : FvW (fr9 tp) := frn_v 9 fr0 fr0_ok ⟨fun w w0 w1 => absurd (show w < 0 from w1) (by omega), fun w w0 w1 => absurd (show w < 0 from w1) (by omega), wn4⟩
/-- what is taken when the bytes are right -/
theorem fr9_FrOK {tp : List Int} (h : FsOK tp (fr9 tp)) : FrOK (fW (fr9 tp)) (fB (fr9 tp)) (gW (fr9 tp)) (gB (fr9 tp)) := by
  obtain ⟨v1, v2, v3⟩ := fr9_v tp
  refine ⟨⟨h.2.1.1, h.2.1.2, h.2.2.1.1, h.2.2.1.2⟩, fun w w0 w1 => ?_, fun b b0 b1 => ?_⟩
  · have z0 := v1 w w0 w1 0 (by omega) (by omega)
    have z1 := v1 w w0 w1 1 (by omega) (by omega)
    have z2 := v1 w w0 w1 2 (by omega) (by omega)
    have z3 := v1 w w0 w1 3 (by omega) (by omega)
    exact ⟨z0.1, z0.2, z1.1, z1.2, z2.1, z2.2, z3.1, z3.2⟩
  · have z0 := v2 b b0 b1 0 (by omega) (by omega)
    have z1 := v2 b b0 b1 1 (by omega) (by omega)
    have z2 := v2 b b0 b1 2 (by omega) (by omega)
    exact ⟨z0.1, z0.2, z1.1, z1.2, z2.1, z2.2⟩
theorem fr9_LwOK (tp : List Int) : LwOK (gL (fr9 tp)) := by
  have v3 := (fr9_v tp).2.2
  exact ⟨v3 0 (by omega) (by omega), v3 1 (by omega) (by omega), v3 2 (by omega) (by omega), v3 3 (by omega) (by omega)⟩
theorem frn_r {tp : List Int} : ∀ (m : Nat) (S : FS), FsOK tp S → -1 ≤ fE S ∧ fE S ≤ (tp.length : Int) → -1 ≤ fE (frn tp m S) ∧ fE (frn tp m S) ≤ (tp.length : Int)
  | 0, S, h, hv => hv
  | m + 1, S, h, hv => by
    have hT := (clz_ok h).1.1
    have hv' := (clz_ok h).2
    have hs := sk_r (tp := tp) hT.1.2
    have h1 := hT.1
    rw [frn]
    split
    · exact hv'
    · split
      · show (-1 : Int) ≤ -1 ∧ (-1 : Int) ≤ _; omega
      · split
        · rename_i h59
          have hp := tch_pos (tp := tp) (p := sk tp (fA (cls tp S))) (by show lk tp (fA (cls tp S)) ≠ 0; omega)
          exact frn_r m _ (hT.at (by omega)) (by show (-1 : Int) ≤ -1 ∧ (-1 : Int) ≤ _; omega)
        · show -1 ≤ sk tp (fA (cls tp S)) ∧ sk tp (fA (cls tp S)) ≤ _; omega
theorem frF_r {tp : List Int} (ht : TpOK tp) : -1 ≤ frF tp ∧ frF tp ≤ 160 := by
  have ht1 := ht.1
  have h := frn_r (tp := tp) 9 fr0 fr0_ok (by show (-1 : Int) ≤ -1 ∧ (-1 : Int) ≤ _; omega)
  have h' : -1 ≤ fE (fr9 tp) ∧ fE (fr9 tp) ≤ (tp.length : Int) := h
  unfold frF
  split
  · omega
  · split <;> omega
/-- a season that begins -/
def zB (law : Int → Int) : SS := (law, fun _ => -1, 0, fun _ => 0, fun _ => 0, fun _ => 0, 0, 0, fun _ => 0, fun _ => 0, fun _ _ => 0, fun _ _ => 0)
theorem zB_ok {nb : Int} {law : Int → Int} (h : LwOK law) : SeOK nb (zB law) := ⟨h, ⟨Int.le_refl _, by show (0 : Int) ≤ 10; omega⟩, ⟨⟨Int.le_refl _, by show (0 : Int) ≤ 40; omega⟩, Int.le_refl _, by show (0 : Int) < 1000000; omega, fun _ _ _ => ⟨rfl, rfl⟩⟩⟩
theorem us3 {f : Int → Int} {v : Int} {b : Int} (h0 : 0 ≤ b) (h1 : b < 3) : usz (usz (usz f 0 v) 1 v) 2 v b = v := by
  rcases (show b = 0 ∨ b = 1 ∨ b = 2 by omega) with rfl | rfl | rfl <;> (repeat (first | rw [usz_s] | rw [usz_n (by omega)]))
/-- the answer of text at a front -/
def sText0 (tp : List Int) : Int := if frF tp = -1 then fB (fr9 tp) else -1
def tkF : List Nat := [8, 101, 303, 304, 1401, 1402, 1404, 1503, 1504, 2601, 2602, 2701, 2703, 3105, 3106, 3107, 5112, 6306, 6308, 7203, 7204, 7205, 7206, 7207, 7703, 8000, 8008, 8009, 8010, 8011, 8012, 8013, 8014, 8017, 8026, 8027, 8028, 8046, 8047, 8052, 8064]
def tkA : List Nat := [5, 6, 7, 8, 10, 11, 12, 13, 17, 18, 19, 20, 22, 23, 24, 25, 28, 29, 32, 33, 37, 38, 52, 53, 54, 55, 56, 57, 58, 59, 60, 61, 62, 70, 74, 75, 76, 78, 79, 88, 89, 90, 96, 97, 98, 99, 100, 101, 102, 103, 104, 105, 106, 107, 108, 109, 110]
theorem x_copyFront {K : PK} {d : Nat} {sc : Nat → Int} {ar : Nat → Int → Int} {tx oc : Nat} {rl : Nat → Option Nat} {ou : Nat → Int64} {tl : List PO} {q : Nat × Nat} (hK0 : K 0 = some (4, zA kc0)) (hK1 : K 1 = some (3, zA kc1)) : CallR K (d + 1) 19 [.ref 3, .ref 15] (HW sc ar tx oc rl ou tl, q) none (HW (usc (usc sc 303 (sc 1503)) 304 (sc 1504)) (usc (usc (usc (usc (usc (usc (usc (usc ar 10 (cpz (ar 22) (ar 10) 3)) 11 (cpz (ar 23) (ar 11) 3)) 12 (cpz (ar 24) (ar 12) 3)) 13 (cpz (ar 25) (ar 13) 4)) 5 (cpz (ar 17) (ar 5) 4)) 6 (cpz (ar 18) (ar 6) 4)) 7 (cpz (ar 19) (ar 7) 4)) 8 (cpz (ar 20) (ar 8) 4)) tx oc rl ou tl, q) := by
  apply CQ.x
  refine CQ.of (own := 2) (n := 3) (ini := false) (rt := none) (cd := cd19) (by decide +kernel) rfl (by decide +kernel) rfl (Nat.le_of_ble_eq_true rfl) ?_
  refine RQ.seg 16 (pc' := 28) (L' := [some (.ref 3), some (.ref 15), some (.int (iI 0))]) (st' := [.int (iI 0), .ref 16]) (g1 := (HW (usc (usc sc 303 (sc 1503)) 304 (sc 1504)) ar tx oc rl ou tl, q)) rfl ?_
  refine RQ.aald (z := 0) rfl rfl rfl (by omega) (by decide) ?_
  refine RQ.to (L' := [some (.ref 3), some (.ref 15), some (.int (iI 0))]) (st' := [.ref 17]) rfl rfl ?_
  refine RQ.seg 4 (pc' := 35) (L' := [some (.ref 3), some (.ref 15), some (.int (iI 0))]) (st' := [.int (iI 0), .ref 4, .int (iI 0), .ref 17]) (g1 := (HW (usc (usc sc 303 (sc 1503)) 304 (sc 1504)) ar tx oc rl ou tl, q)) rfl ?_
  refine RQ.aald (z := 0) rfl rfl rfl (by omega) (by decide) ?_
  refine RQ.to (L' := [some (.ref 3), some (.ref 15), some (.int (iI 0))]) (st' := [.ref 5, .int (iI 0), .ref 17]) rfl rfl ?_
  refine RQ.seg 2 (pc' := 40) (L' := [some (.ref 3), some (.ref 15), some (.int (iI 0))]) (st' := [.retAddr 0, .int (iI 0), .ref 5, .int (iI 0), .ref 17]) (g1 := (HW (usc (usc sc 303 (sc 1503)) 304 (sc 1504)) ar tx oc rl ou tl, q)) rfl ?_
  refine RQ.kalen rfl hK0 ?_
  refine RQ.acp (n := 4) (f := (ar 17)) (f1 := (ar 5)) (g1 := (HW (usc (usc sc 303 (sc 1503)) 304 (sc 1504)) (usc ar 5 (cpz (ar 17) (ar 5) 4)) tx oc rl ou tl, q)) rfl (by decide +kernel) rfl rfl rfl (by decide) (by decide) (by decide) (HWa_5 rfl) ?_
  refine RQ.seg 8 (pc' := 28) (L' := [some (.ref 3), some (.ref 15), some (.int (iI 1))]) (st' := [.int (iI 1), .ref 16]) (g1 := (HW (usc (usc sc 303 (sc 1503)) 304 (sc 1504)) (usc ar 5 (cpz (ar 17) (ar 5) 4)) tx oc rl ou tl, q)) rfl ?_
  refine RQ.aald (z := 1) rfl rfl rfl (by omega) (by decide) ?_
  refine RQ.to (L' := [some (.ref 3), some (.ref 15), some (.int (iI 1))]) (st' := [.ref 18]) rfl rfl ?_
  refine RQ.seg 4 (pc' := 35) (L' := [some (.ref 3), some (.ref 15), some (.int (iI 1))]) (st' := [.int (iI 1), .ref 4, .int (iI 0), .ref 18]) (g1 := (HW (usc (usc sc 303 (sc 1503)) 304 (sc 1504)) (usc ar 5 (cpz (ar 17) (ar 5) 4)) tx oc rl ou tl, q)) rfl ?_
  refine RQ.aald (z := 1) rfl rfl rfl (by omega) (by decide) ?_
  refine RQ.to (L' := [some (.ref 3), some (.ref 15), some (.int (iI 1))]) (st' := [.ref 6, .int (iI 0), .ref 18]) rfl rfl ?_
  refine RQ.seg 2 (pc' := 40) (L' := [some (.ref 3), some (.ref 15), some (.int (iI 1))]) (st' := [.retAddr 0, .int (iI 0), .ref 6, .int (iI 0), .ref 18]) (g1 := (HW (usc (usc sc 303 (sc 1503)) 304 (sc 1504)) (usc ar 5 (cpz (ar 17) (ar 5) 4)) tx oc rl ou tl, q)) rfl ?_
  refine RQ.kalen rfl hK0 ?_
  refine RQ.acp (n := 4) (f := (ar 18)) (f1 := (ar 6)) (g1 := (HW (usc (usc sc 303 (sc 1503)) 304 (sc 1504)) (usc (usc ar 5 (cpz (ar 17) (ar 5) 4)) 6 (cpz (ar 18) (ar 6) 4)) tx oc rl ou tl, q)) rfl (by decide +kernel) rfl rfl rfl (by decide) (by decide) (by decide) (HWa_6 rfl) ?_
  refine RQ.seg 8 (pc' := 28) (L' := [some (.ref 3), some (.ref 15), some (.int (iI 2))]) (st' := [.int (iI 2), .ref 16]) (g1 := (HW (usc (usc sc 303 (sc 1503)) 304 (sc 1504)) (usc (usc ar 5 (cpz (ar 17) (ar 5) 4)) 6 (cpz (ar 18) (ar 6) 4)) tx oc rl ou tl, q)) rfl ?_
  refine RQ.aald (z := 2) rfl rfl rfl (by omega) (by decide) ?_
  refine RQ.to (L' := [some (.ref 3), some (.ref 15), some (.int (iI 2))]) (st' := [.ref 19]) rfl rfl ?_
  refine RQ.seg 4 (pc' := 35) (L' := [some (.ref 3), some (.ref 15), some (.int (iI 2))]) (st' := [.int (iI 2), .ref 4, .int (iI 0), .ref 19]) (g1 := (HW (usc (usc sc 303 (sc 1503)) 304 (sc 1504)) (usc (usc ar 5 (cpz (ar 17) (ar 5) 4)) 6 (cpz (ar 18) (ar 6) 4)) tx oc rl ou tl, q)) rfl ?_
  refine RQ.aald (z := 2) rfl rfl rfl (by omega) (by decide) ?_
  refine RQ.to (L' := [some (.ref 3), some (.ref 15), some (.int (iI 2))]) (st' := [.ref 7, .int (iI 0), .ref 19]) rfl rfl ?_
  refine RQ.seg 2 (pc' := 40) (L' := [some (.ref 3), some (.ref 15), some (.int (iI 2))]) (st' := [.retAddr 0, .int (iI 0), .ref 7, .int (iI 0), .ref 19]) (g1 := (HW (usc (usc sc 303 (sc 1503)) 304 (sc 1504)) (usc (usc ar 5 (cpz (ar 17) (ar 5) 4)) 6 (cpz (ar 18) (ar 6) 4)) tx oc rl ou tl, q)) rfl ?_
  refine RQ.kalen rfl hK0 ?_
  refine RQ.acp (n := 4) (f := (ar 19)) (f1 := (ar 7)) (g1 := (HW (usc (usc sc 303 (sc 1503)) 304 (sc 1504)) (usc (usc (usc ar 5 (cpz (ar 17) (ar 5) 4)) 6 (cpz (ar 18) (ar 6) 4)) 7 (cpz (ar 19) (ar 7) 4)) tx oc rl ou tl, q)) rfl (by decide +kernel) rfl rfl rfl (by decide) (by decide) (by decide) (HWa_7 rfl) ?_
  refine RQ.seg 8 (pc' := 28) (L' := [some (.ref 3), some (.ref 15), some (.int (iI 3))]) (st' := [.int (iI 3), .ref 16]) (g1 := (HW (usc (usc sc 303 (sc 1503)) 304 (sc 1504)) (usc (usc (usc ar 5 (cpz (ar 17) (ar 5) 4)) 6 (cpz (ar 18) (ar 6) 4)) 7 (cpz (ar 19) (ar 7) 4)) tx oc rl ou tl, q)) rfl ?_
  refine RQ.aald (z := 3) rfl rfl rfl (by omega) (by decide) ?_
  refine RQ.to (L' := [some (.ref 3), some (.ref 15), some (.int (iI 3))]) (st' := [.ref 20]) rfl rfl ?_
  refine RQ.seg 4 (pc' := 35) (L' := [some (.ref 3), some (.ref 15), some (.int (iI 3))]) (st' := [.int (iI 3), .ref 4, .int (iI 0), .ref 20]) (g1 := (HW (usc (usc sc 303 (sc 1503)) 304 (sc 1504)) (usc (usc (usc ar 5 (cpz (ar 17) (ar 5) 4)) 6 (cpz (ar 18) (ar 6) 4)) 7 (cpz (ar 19) (ar 7) 4)) tx oc rl ou tl, q)) rfl ?_
  refine RQ.aald (z := 3) rfl rfl rfl (by omega) (by decide) ?_
  refine RQ.to (L' := [some (.ref 3), some (.ref 15), some (.int (iI 3))]) (st' := [.ref 8, .int (iI 0), .ref 20]) rfl rfl ?_
  refine RQ.seg 2 (pc' := 40) (L' := [some (.ref 3), some (.ref 15), some (.int (iI 3))]) (st' := [.retAddr 0, .int (iI 0), .ref 8, .int (iI 0), .ref 20]) (g1 := (HW (usc (usc sc 303 (sc 1503)) 304 (sc 1504)) (usc (usc (usc ar 5 (cpz (ar 17) (ar 5) 4)) 6 (cpz (ar 18) (ar 6) 4)) 7 (cpz (ar 19) (ar 7) 4)) tx oc rl ou tl, q)) rfl ?_
  refine RQ.kalen rfl hK0 ?_
  refine RQ.acp (n := 4) (f := (ar 20)) (f1 := (ar 8)) (g1 := (HW (usc (usc sc 303 (sc 1503)) 304 (sc 1504)) (usc (usc (usc (usc ar 5 (cpz (ar 17) (ar 5) 4)) 6 (cpz (ar 18) (ar 6) 4)) 7 (cpz (ar 19) (ar 7) 4)) 8 (cpz (ar 20) (ar 8) 4)) tx oc rl ou tl, q)) rfl (by decide +kernel) rfl rfl rfl (by decide) (by decide) (by decide) (HWa_8 rfl) ?_
  refine RQ.seg 13 (pc' := 62) (L' := [some (.ref 3), some (.ref 15), some (.int (iI 0))]) (st' := [.int (iI 0), .ref 21]) (g1 := (HW (usc (usc sc 303 (sc 1503)) 304 (sc 1504)) (usc (usc (usc (usc ar 5 (cpz (ar 17) (ar 5) 4)) 6 (cpz (ar 18) (ar 6) 4)) 7 (cpz (ar 19) (ar 7) 4)) 8 (cpz (ar 20) (ar 8) 4)) tx oc rl ou tl, q)) rfl ?_
  refine RQ.aald (z := 0) rfl rfl rfl (by omega) (by decide) ?_
  refine RQ.to (L' := [some (.ref 3), some (.ref 15), some (.int (iI 0))]) (st' := [.ref 22]) rfl rfl ?_
  refine RQ.seg 4 (pc' := 69) (L' := [some (.ref 3), some (.ref 15), some (.int (iI 0))]) (st' := [.int (iI 0), .ref 9, .int (iI 0), .ref 22]) (g1 := (HW (usc (usc sc 303 (sc 1503)) 304 (sc 1504)) (usc (usc (usc (usc ar 5 (cpz (ar 17) (ar 5) 4)) 6 (cpz (ar 18) (ar 6) 4)) 7 (cpz (ar 19) (ar 7) 4)) 8 (cpz (ar 20) (ar 8) 4)) tx oc rl ou tl, q)) rfl ?_
  refine RQ.aald (z := 0) rfl rfl rfl (by omega) (by decide) ?_
  refine RQ.to (L' := [some (.ref 3), some (.ref 15), some (.int (iI 0))]) (st' := [.ref 10, .int (iI 0), .ref 22]) rfl rfl ?_
  refine RQ.seg 2 (pc' := 74) (L' := [some (.ref 3), some (.ref 15), some (.int (iI 0))]) (st' := [.retAddr 1, .int (iI 0), .ref 10, .int (iI 0), .ref 22]) (g1 := (HW (usc (usc sc 303 (sc 1503)) 304 (sc 1504)) (usc (usc (usc (usc ar 5 (cpz (ar 17) (ar 5) 4)) 6 (cpz (ar 18) (ar 6) 4)) 7 (cpz (ar 19) (ar 7) 4)) 8 (cpz (ar 20) (ar 8) 4)) tx oc rl ou tl, q)) rfl ?_
  refine RQ.kalen rfl hK1 ?_
  refine RQ.acp (n := 3) (f := (ar 22)) (f1 := (ar 10)) (g1 := (HW (usc (usc sc 303 (sc 1503)) 304 (sc 1504)) (usc (usc (usc (usc (usc ar 10 (cpz (ar 22) (ar 10) 3)) 5 (cpz (ar 17) (ar 5) 4)) 6 (cpz (ar 18) (ar 6) 4)) 7 (cpz (ar 19) (ar 7) 4)) 8 (cpz (ar 20) (ar 8) 4)) tx oc rl ou tl, q)) rfl (by decide +kernel) rfl rfl rfl (by decide) (by decide) (by decide) (HWa_10 (by funext j; unfold usc; cases hb : Nat.beq j 10 <;> first | rfl | (rw [Nat.eq_of_beq_eq_true hb]; rfl))) ?_
  refine RQ.seg 8 (pc' := 62) (L' := [some (.ref 3), some (.ref 15), some (.int (iI 1))]) (st' := [.int (iI 1), .ref 21]) (g1 := (HW (usc (usc sc 303 (sc 1503)) 304 (sc 1504)) (usc (usc (usc (usc (usc ar 10 (cpz (ar 22) (ar 10) 3)) 5 (cpz (ar 17) (ar 5) 4)) 6 (cpz (ar 18) (ar 6) 4)) 7 (cpz (ar 19) (ar 7) 4)) 8 (cpz (ar 20) (ar 8) 4)) tx oc rl ou tl, q)) rfl ?_
  refine RQ.aald (z := 1) rfl rfl rfl (by omega) (by decide) ?_
  refine RQ.to (L' := [some (.ref 3), some (.ref 15), some (.int (iI 1))]) (st' := [.ref 23]) rfl rfl ?_
  refine RQ.seg 4 (pc' := 69) (L' := [some (.ref 3), some (.ref 15), some (.int (iI 1))]) (st' := [.int (iI 1), .ref 9, .int (iI 0), .ref 23]) (g1 := (HW (usc (usc sc 303 (sc 1503)) 304 (sc 1504)) (usc (usc (usc (usc (usc ar 10 (cpz (ar 22) (ar 10) 3)) 5 (cpz (ar 17) (ar 5) 4)) 6 (cpz (ar 18) (ar 6) 4)) 7 (cpz (ar 19) (ar 7) 4)) 8 (cpz (ar 20) (ar 8) 4)) tx oc rl ou tl, q)) rfl ?_
  refine RQ.aald (z := 1) rfl rfl rfl (by omega) (by decide) ?_
  refine RQ.to (L' := [some (.ref 3), some (.ref 15), some (.int (iI 1))]) (st' := [.ref 11, .int (iI 0), .ref 23]) rfl rfl ?_
  refine RQ.seg 2 (pc' := 74) (L' := [some (.ref 3), some (.ref 15), some (.int (iI 1))]) (st' := [.retAddr 1, .int (iI 0), .ref 11, .int (iI 0), .ref 23]) (g1 := (HW (usc (usc sc 303 (sc 1503)) 304 (sc 1504)) (usc (usc (usc (usc (usc ar 10 (cpz (ar 22) (ar 10) 3)) 5 (cpz (ar 17) (ar 5) 4)) 6 (cpz (ar 18) (ar 6) 4)) 7 (cpz (ar 19) (ar 7) 4)) 8 (cpz (ar 20) (ar 8) 4)) tx oc rl ou tl, q)) rfl ?_
  refine RQ.kalen rfl hK1 ?_
  refine RQ.acp (n := 3) (f := (ar 23)) (f1 := (ar 11)) (g1 := (HW (usc (usc sc 303 (sc 1503)) 304 (sc 1504)) (usc (usc (usc (usc (usc (usc ar 10 (cpz (ar 22) (ar 10) 3)) 11 (cpz (ar 23) (ar 11) 3)) 5 (cpz (ar 17) (ar 5) 4)) 6 (cpz (ar 18) (ar 6) 4)) 7 (cpz (ar 19) (ar 7) 4)) 8 (cpz (ar 20) (ar 8) 4)) tx oc rl ou tl, q)) rfl (by decide +kernel) rfl rfl rfl (by decide) (by decide) (by decide) (HWa_11 (by funext j; unfold usc; cases hb : Nat.beq j 11 <;> first | rfl | (rw [Nat.eq_of_beq_eq_true hb]; rfl))) ?_
  refine RQ.seg 8 (pc' := 62) (L' := [some (.ref 3), some (.ref 15), some (.int (iI 2))]) (st' := [.int (iI 2), .ref 21]) (g1 := (HW (usc (usc sc 303 (sc 1503)) 304 (sc 1504)) (usc (usc (usc (usc (usc (usc ar 10 (cpz (ar 22) (ar 10) 3)) 11 (cpz (ar 23) (ar 11) 3)) 5 (cpz (ar 17) (ar 5) 4)) 6 (cpz (ar 18) (ar 6) 4)) 7 (cpz (ar 19) (ar 7) 4)) 8 (cpz (ar 20) (ar 8) 4)) tx oc rl ou tl, q)) rfl ?_
  refine RQ.aald (z := 2) rfl rfl rfl (by omega) (by decide) ?_
  refine RQ.to (L' := [some (.ref 3), some (.ref 15), some (.int (iI 2))]) (st' := [.ref 24]) rfl rfl ?_
  refine RQ.seg 4 (pc' := 69) (L' := [some (.ref 3), some (.ref 15), some (.int (iI 2))]) (st' := [.int (iI 2), .ref 9, .int (iI 0), .ref 24]) (g1 := (HW (usc (usc sc 303 (sc 1503)) 304 (sc 1504)) (usc (usc (usc (usc (usc (usc ar 10 (cpz (ar 22) (ar 10) 3)) 11 (cpz (ar 23) (ar 11) 3)) 5 (cpz (ar 17) (ar 5) 4)) 6 (cpz (ar 18) (ar 6) 4)) 7 (cpz (ar 19) (ar 7) 4)) 8 (cpz (ar 20) (ar 8) 4)) tx oc rl ou tl, q)) rfl ?_
  refine RQ.aald (z := 2) rfl rfl rfl (by omega) (by decide) ?_
  refine RQ.to (L' := [some (.ref 3), some (.ref 15), some (.int (iI 2))]) (st' := [.ref 12, .int (iI 0), .ref 24]) rfl rfl ?_
  refine RQ.seg 2 (pc' := 74) (L' := [some (.ref 3), some (.ref 15), some (.int (iI 2))]) (st' := [.retAddr 1, .int (iI 0), .ref 12, .int (iI 0), .ref 24]) (g1 := (HW (usc (usc sc 303 (sc 1503)) 304 (sc 1504)) (usc (usc (usc (usc (usc (usc ar 10 (cpz (ar 22) (ar 10) 3)) 11 (cpz (ar 23) (ar 11) 3)) 5 (cpz (ar 17) (ar 5) 4)) 6 (cpz (ar 18) (ar 6) 4)) 7 (cpz (ar 19) (ar 7) 4)) 8 (cpz (ar 20) (ar 8) 4)) tx oc rl ou tl, q)) rfl ?_
  refine RQ.kalen rfl hK1 ?_
  refine RQ.acp (n := 3) (f := (ar 24)) (f1 := (ar 12)) (g1 := (HW (usc (usc sc 303 (sc 1503)) 304 (sc 1504)) (usc (usc (usc (usc (usc (usc (usc ar 10 (cpz (ar 22) (ar 10) 3)) 11 (cpz (ar 23) (ar 11) 3)) 12 (cpz (ar 24) (ar 12) 3)) 5 (cpz (ar 17) (ar 5) 4)) 6 (cpz (ar 18) (ar 6) 4)) 7 (cpz (ar 19) (ar 7) 4)) 8 (cpz (ar 20) (ar 8) 4)) tx oc rl ou tl, q)) rfl (by decide +kernel) rfl rfl rfl (by decide) (by decide) (by decide) (HWa_12 (by funext j; unfold usc; cases hb : Nat.beq j 12 <;> first | rfl | (rw [Nat.eq_of_beq_eq_true hb]; rfl))) ?_
  refine RQ.seg 13 (pc' := 98) (L' := [some (.ref 3), some (.ref 15), some (.int (iI 3))]) (st' := [.ref 13, .int (iI 0), .ref 13, .int (iI 0), .ref 25]) (g1 := (HW (usc (usc sc 303 (sc 1503)) 304 (sc 1504)) (usc (usc (usc (usc (usc (usc (usc ar 10 (cpz (ar 22) (ar 10) 3)) 11 (cpz (ar 23) (ar 11) 3)) 12 (cpz (ar 24) (ar 12) 3)) 5 (cpz (ar 17) (ar 5) 4)) 6 (cpz (ar 18) (ar 6) 4)) 7 (cpz (ar 19) (ar 7) 4)) 8 (cpz (ar 20) (ar 8) 4)) tx oc rl ou tl, q)) rfl ?_
  refine RQ.alen rfl rfl ?_
  refine RQ.acp (n := 4) (f := (ar 25)) (f1 := (ar 13)) (g1 := (HW (usc (usc sc 303 (sc 1503)) 304 (sc 1504)) (usc (usc (usc (usc (usc (usc (usc (usc ar 10 (cpz (ar 22) (ar 10) 3)) 11 (cpz (ar 23) (ar 11) 3)) 12 (cpz (ar 24) (ar 12) 3)) 13 (cpz (ar 25) (ar 13) 4)) 5 (cpz (ar 17) (ar 5) 4)) 6 (cpz (ar 18) (ar 6) 4)) 7 (cpz (ar 19) (ar 7) 4)) 8 (cpz (ar 20) (ar 8) 4)) tx oc rl ou tl, q)) rfl (by decide +kernel) rfl rfl rfl (by decide) (by decide) (by decide) (HWa_13 (by funext j; unfold usc; cases hb : Nat.beq j 13 <;> first | rfl | (rw [Nat.eq_of_beq_eq_true hb]; rfl))) ?_
  refine RQ.ret rfl rfl ?_
  exact ⟨rfl, rfl⟩
theorem x_seBegin {K : PK} {d : Nat} {sc : Nat → Int} {ar : Nat → Int → Int} {tx oc : Nat} {rl : Nat → Option Nat} {ou : Nat → Int64} {tl : List PO} {q : Nat × Nat}  : CallR K (d + 1) 93 [.ref 31, .ref 13] (HW sc ar tx oc rl ou tl, q) none (HW (usc (usc (usc sc 3105 0) 3106 0) 3107 0) (usc (usc (usc (usc ar 32 (cpz (ar 13) (ar 32) 4)) 33 (usz (usz (usz (ar 33) 0 (-1)) 1 (-1)) 2 (-1))) 37 (usz (usz (usz (ar 37) 0 0) 1 0) 2 0)) 38 (usz (usz (usz (ar 38) 0 0) 1 0) 2 0)) tx oc rl ou tl, q) := by
  apply CQ.x
  refine CQ.of (own := 8) (n := 3) (ini := false) (rt := none) (cd := cd93) (by decide +kernel) rfl (by decide +kernel) rfl (Nat.le_of_ble_eq_true rfl) ?_
  refine RQ.seg 7 (pc' := 11) (L' := [some (.ref 31), some (.ref 13), none]) (st' := [.ref 32, .int (iI 0), .ref 32, .int (iI 0), .ref 13]) (g1 := (HW sc ar tx oc rl ou tl, q)) rfl ?_
  refine RQ.alen rfl rfl ?_
  refine RQ.acp (n := 4) (f := (ar 13)) (f1 := (ar 32)) (g1 := (HW sc (usc ar 32 (cpz (ar 13) (ar 32) 4)) tx oc rl ou tl, q)) rfl (by decide +kernel) rfl rfl rfl (by decide) (by decide) (by decide) (HWa_32 rfl) ?_
  refine RQ.seg 9 (pc' := 28) (L' := [some (.ref 31), some (.ref 13), some (.int (iI 0))]) (st' := [.int (iI (-1)), .int (iI 0), .ref 33]) (g1 := (HW sc (usc ar 32 (cpz (ar 13) (ar 32) 4)) tx oc rl ou tl, q)) rfl ?_
  refine RQ.iast (z := 0) (v := (-1)) (g1 := (HW sc (usc (usc ar 32 (cpz (ar 13) (ar 32) 4)) 33 (usz (ar 33) 0 (-1))) tx oc rl ou tl, q)) rfl rfl rfl rfl (by omega) (by decide) (HWa_33 rfl) ?_
  refine RQ.seg 4 (pc' := 35) (L' := [some (.ref 31), some (.ref 13), some (.int (iI 0))]) (st' := [.int (iI 0), .int (iI 0), .ref 37]) (g1 := (HW sc (usc (usc ar 32 (cpz (ar 13) (ar 32) 4)) 33 (usz (ar 33) 0 (-1))) tx oc rl ou tl, q)) rfl ?_
  refine RQ.iast (z := 0) (v := 0) (g1 := (HW sc (usc (usc (usc ar 32 (cpz (ar 13) (ar 32) 4)) 33 (usz (ar 33) 0 (-1))) 37 (usz (ar 37) 0 0)) tx oc rl ou tl, q)) rfl rfl rfl rfl (by omega) (by decide) (HWa_37 rfl) ?_
  refine RQ.seg 4 (pc' := 42) (L' := [some (.ref 31), some (.ref 13), some (.int (iI 0))]) (st' := [.int (iI 0), .int (iI 0), .ref 38]) (g1 := (HW sc (usc (usc (usc ar 32 (cpz (ar 13) (ar 32) 4)) 33 (usz (ar 33) 0 (-1))) 37 (usz (ar 37) 0 0)) tx oc rl ou tl, q)) rfl ?_
  refine RQ.iast (z := 0) (v := 0) (g1 := (HW sc (usc (usc (usc (usc ar 32 (cpz (ar 13) (ar 32) 4)) 33 (usz (ar 33) 0 (-1))) 37 (usz (ar 37) 0 0)) 38 (usz (ar 38) 0 0)) tx oc rl ou tl, q)) rfl rfl rfl rfl (by omega) (by decide) (HWa_38 rfl) ?_
  refine RQ.seg 9 (pc' := 28) (L' := [some (.ref 31), some (.ref 13), some (.int (iI 1))]) (st' := [.int (iI (-1)), .int (iI 1), .ref 33]) (g1 := (HW sc (usc (usc (usc (usc ar 32 (cpz (ar 13) (ar 32) 4)) 33 (usz (ar 33) 0 (-1))) 37 (usz (ar 37) 0 0)) 38 (usz (ar 38) 0 0)) tx oc rl ou tl, q)) rfl ?_
  refine RQ.iast (z := 1) (v := (-1)) (g1 := (HW sc (usc (usc (usc (usc ar 32 (cpz (ar 13) (ar 32) 4)) 33 (usz (usz (ar 33) 0 (-1)) 1 (-1))) 37 (usz (ar 37) 0 0)) 38 (usz (ar 38) 0 0)) tx oc rl ou tl, q)) rfl rfl rfl rfl (by omega) (by decide) (HWa_33 (by funext j; unfold usc; cases hb : Nat.beq j 33 <;> first | rfl | (rw [Nat.eq_of_beq_eq_true hb]; rfl))) ?_
  refine RQ.seg 4 (pc' := 35) (L' := [some (.ref 31), some (.ref 13), some (.int (iI 1))]) (st' := [.int (iI 0), .int (iI 1), .ref 37]) (g1 := (HW sc (usc (usc (usc (usc ar 32 (cpz (ar 13) (ar 32) 4)) 33 (usz (usz (ar 33) 0 (-1)) 1 (-1))) 37 (usz (ar 37) 0 0)) 38 (usz (ar 38) 0 0)) tx oc rl ou tl, q)) rfl ?_
  refine RQ.iast (z := 1) (v := 0) (g1 := (HW sc (usc (usc (usc (usc ar 32 (cpz (ar 13) (ar 32) 4)) 33 (usz (usz (ar 33) 0 (-1)) 1 (-1))) 37 (usz (usz (ar 37) 0 0) 1 0)) 38 (usz (ar 38) 0 0)) tx oc rl ou tl, q)) rfl rfl rfl rfl (by omega) (by decide) (HWa_37 (by funext j; unfold usc; cases hb : Nat.beq j 37 <;> first | rfl | (rw [Nat.eq_of_beq_eq_true hb]; rfl))) ?_
  refine RQ.seg 4 (pc' := 42) (L' := [some (.ref 31), some (.ref 13), some (.int (iI 1))]) (st' := [.int (iI 0), .int (iI 1), .ref 38]) (g1 := (HW sc (usc (usc (usc (usc ar 32 (cpz (ar 13) (ar 32) 4)) 33 (usz (usz (ar 33) 0 (-1)) 1 (-1))) 37 (usz (usz (ar 37) 0 0) 1 0)) 38 (usz (ar 38) 0 0)) tx oc rl ou tl, q)) rfl ?_
  refine RQ.iast (z := 1) (v := 0) (g1 := (HW sc (usc (usc (usc (usc ar 32 (cpz (ar 13) (ar 32) 4)) 33 (usz (usz (ar 33) 0 (-1)) 1 (-1))) 37 (usz (usz (ar 37) 0 0) 1 0)) 38 (usz (usz (ar 38) 0 0) 1 0)) tx oc rl ou tl, q)) rfl rfl rfl rfl (by omega) (by decide) (HWa_38 (by funext j; unfold usc; cases hb : Nat.beq j 38 <;> first | rfl | (rw [Nat.eq_of_beq_eq_true hb]; rfl))) ?_
  refine RQ.seg 9 (pc' := 28) (L' := [some (.ref 31), some (.ref 13), some (.int (iI 2))]) (st' := [.int (iI (-1)), .int (iI 2), .ref 33]) (g1 := (HW sc (usc (usc (usc (usc ar 32 (cpz (ar 13) (ar 32) 4)) 33 (usz (usz (ar 33) 0 (-1)) 1 (-1))) 37 (usz (usz (ar 37) 0 0) 1 0)) 38 (usz (usz (ar 38) 0 0) 1 0)) tx oc rl ou tl, q)) rfl ?_
  refine RQ.iast (z := 2) (v := (-1)) (g1 := (HW sc (usc (usc (usc (usc ar 32 (cpz (ar 13) (ar 32) 4)) 33 (usz (usz (usz (ar 33) 0 (-1)) 1 (-1)) 2 (-1))) 37 (usz (usz (ar 37) 0 0) 1 0)) 38 (usz (usz (ar 38) 0 0) 1 0)) tx oc rl ou tl, q)) rfl rfl rfl rfl (by omega) (by decide) (HWa_33 (by funext j; unfold usc; cases hb : Nat.beq j 33 <;> first | rfl | (rw [Nat.eq_of_beq_eq_true hb]; rfl))) ?_
  refine RQ.seg 4 (pc' := 35) (L' := [some (.ref 31), some (.ref 13), some (.int (iI 2))]) (st' := [.int (iI 0), .int (iI 2), .ref 37]) (g1 := (HW sc (usc (usc (usc (usc ar 32 (cpz (ar 13) (ar 32) 4)) 33 (usz (usz (usz (ar 33) 0 (-1)) 1 (-1)) 2 (-1))) 37 (usz (usz (ar 37) 0 0) 1 0)) 38 (usz (usz (ar 38) 0 0) 1 0)) tx oc rl ou tl, q)) rfl ?_
  refine RQ.iast (z := 2) (v := 0) (g1 := (HW sc (usc (usc (usc (usc ar 32 (cpz (ar 13) (ar 32) 4)) 33 (usz (usz (usz (ar 33) 0 (-1)) 1 (-1)) 2 (-1))) 37 (usz (usz (usz (ar 37) 0 0) 1 0) 2 0)) 38 (usz (usz (ar 38) 0 0) 1 0)) tx oc rl ou tl, q)) rfl rfl rfl rfl (by omega) (by decide) (HWa_37 (by funext j; unfold usc; cases hb : Nat.beq j 37 <;> first | rfl | (rw [Nat.eq_of_beq_eq_true hb]; rfl))) ?_
  refine RQ.seg 4 (pc' := 42) (L' := [some (.ref 31), some (.ref 13), some (.int (iI 2))]) (st' := [.int (iI 0), .int (iI 2), .ref 38]) (g1 := (HW sc (usc (usc (usc (usc ar 32 (cpz (ar 13) (ar 32) 4)) 33 (usz (usz (usz (ar 33) 0 (-1)) 1 (-1)) 2 (-1))) 37 (usz (usz (usz (ar 37) 0 0) 1 0) 2 0)) 38 (usz (usz (ar 38) 0 0) 1 0)) tx oc rl ou tl, q)) rfl ?_
  refine RQ.iast (z := 2) (v := 0) (g1 := (HW sc (usc (usc (usc (usc ar 32 (cpz (ar 13) (ar 32) 4)) 33 (usz (usz (usz (ar 33) 0 (-1)) 1 (-1)) 2 (-1))) 37 (usz (usz (usz (ar 37) 0 0) 1 0) 2 0)) 38 (usz (usz (usz (ar 38) 0 0) 1 0) 2 0)) tx oc rl ou tl, q)) rfl rfl rfl rfl (by omega) (by decide) (HWa_38 (by funext j; unfold usc; cases hb : Nat.beq j 38 <;> first | rfl | (rw [Nat.eq_of_beq_eq_true hb]; rfl))) ?_
  refine RQ.seg 14 (pc' := 64) (L' := [some (.ref 31), some (.ref 13), some (.int (iI 3))]) (st' := []) (g1 := (HW (usc (usc (usc sc 3105 0) 3106 0) 3107 0) (usc (usc (usc (usc ar 32 (cpz (ar 13) (ar 32) 4)) 33 (usz (usz (usz (ar 33) 0 (-1)) 1 (-1)) 2 (-1))) 37 (usz (usz (usz (ar 37) 0 0) 1 0) 2 0)) 38 (usz (usz (usz (ar 38) 0 0) 1 0) 2 0)) tx oc rl ou tl, q)) rfl ?_
  refine RQ.ret rfl rfl ?_
  exact ⟨rfl, rfl⟩
theorem x_forgetRows {K : PK} {d : Nat} {sc : Nat → Int} {ar : Nat → Int → Int} {tx oc : Nat} {rl : Nat → Option Nat} {ou : Nat → Int64} {tl : List PO} {q : Nat × Nat}  : CallR K (d + 1) 70 [.ref 63] (HW sc ar tx oc rl ou tl, q) none (HW (usc (usc sc 6306 0) 6308 0) ar tx oc rl ou tl, q) := by
  apply CQ.x
  refine CQ.of (own := 6) (n := 1) (ini := false) (rt := none) (cd := cd70) (by decide +kernel) rfl (by decide +kernel) rfl (Nat.le_of_ble_eq_true rfl) ?_
  refine RQ.seg 6 (pc' := 10) (L' := [some (.ref 63)]) (st' := []) (g1 := (HW (usc (usc sc 6306 0) 6308 0) ar tx oc rl ou tl, q)) rfl ?_
  refine RQ.ret rfl rfl ?_
  exact ⟨rfl, rfl⟩
theorem x_forgetRests {K : PK} {d : Nat} {sc : Nat → Int} {ar : Nat → Int → Int} {tx oc : Nat} {rl : Nat → Option Nat} {ou : Nat → Int64} {tl : List PO} {q : Nat × Nat}  : CallR K (d + 1) 60 [.ref 72] (HW sc ar tx oc rl ou tl, q) none (HW (usc (usc (usc sc 7205 0) 7206 0) 7207 0) ar tx oc rl ou tl, q) := by
  apply CQ.x
  refine CQ.of (own := 5) (n := 1) (ini := false) (rt := none) (cd := cd60) (by decide +kernel) rfl (by decide +kernel) rfl (Nat.le_of_ble_eq_true rfl) ?_
  refine RQ.seg 9 (pc' := 15) (L' := [some (.ref 72)]) (st' := []) (g1 := (HW (usc (usc (usc sc 7205 0) 7206 0) 7207 0) ar tx oc rl ou tl, q)) rfl ?_
  refine RQ.ret rfl rfl ?_
  exact ⟨rfl, rfl⟩
theorem x_forgetExp {K : PK} {d : Nat} {sc : Nat → Int} {ar : Nat → Int → Int} {tx oc : Nat} {rl : Nat → Option Nat} {ou : Nat → Int64} {tl : List PO} {q : Nat × Nat}  : CallR K (d + 1) 10 [.ref 77] (HW sc ar tx oc rl ou tl, q) none (HW (usc sc 7703 0) ar tx oc rl ou tl, q) := by
  apply CQ.x
  refine CQ.of (own := 1) (n := 1) (ini := false) (rt := none) (cd := cd10) (by decide +kernel) rfl (by decide +kernel) rfl (Nat.le_of_ble_eq_true rfl) ?_
  refine RQ.seg 3 (pc' := 5) (L' := [some (.ref 77)]) (st' := []) (g1 := (HW (usc sc 7703 0) ar tx oc rl ou tl, q)) rfl ?_
  refine RQ.ret rfl rfl ?_
  exact ⟨rfl, rfl⟩
theorem x_takeFront {K : PK} {d : Nat} {sc : Nat → Int} {ar : Nat → Int → Int} {tx oc : Nat} {rl : Nat → Option Nat} {ou : Nat → Int64} {tl : List PO} {q : Nat × Nat} {tp : List Int} (ht : TpOK tp) (hs : sc 101 = (tp.length : Int)) (hl : LAt (fun v => v) (ar 2) tp) (hK0 : K 0 = some (4, zA kc0)) (hK1 : K 1 = some (3, zA kc1)) (hK2 : K 2 = some (4, zA kc2)) (hK4 : K 4 = some (4, zA kc4)) (hK5 : K 5 = some (4, zA kc5)) (hK6 : K 6 = some (4, zA kc6)) (hK7 : K 7 = some (4, zA kc7)) (hK8 : K 8 = some (3, zA kc8)) (hK9 : K 9 = some (3, zA kc9)) (hK10 : K 10 = some (3, zA kc10)) (hK11 : K 11 = some (4, zA kc11)) (hK12 : K 12 = some (4, zA kc12)) : CQ K (d + 7) 137 [.ref 0] (HW sc ar tx oc rl ou tl, q) (fun r g' => r = some (.int (iI (sText0 tp))) ∧ ∃ sc' ar', g' = (HW sc' ar' tx oc rl ou tl, q) ∧ Same tkF sc sc' ∧ Same tkA ar ar' ∧ (frF tp = -1 → FsOK tp (fr9 tp) ∧ FrX (sc' 303) (sc' 304) (ar' 5) (ar' 6) (ar' 7) (ar' 8) (ar' 10) (ar' 11) (ar' 12) (fW (fr9 tp)) (fB (fr9 tp)) (gW (fr9 tp)) (gB (fr9 tp)) ∧ (∀ j, 0 ≤ j → j < 4 → ar' 13 j = gL (fr9 tp) j) ∧ SeX (zB (gL (fr9 tp))) sc' ar' ∧ sc' 101 = 0 ∧ sc' 8 = 0 ∧ sc' 6306 = 0 ∧ sc' 7205 = 0 ∧ sc' 7206 = 0 ∧ sc' 7207 = 0 ∧ sc' 7703 = 0) ∧ (frF tp ≠ -1 → Same scF sc sc' ∧ Same scA ar ar')) := by
  have ht1 := ht.1
  have hfr : -1 ≤ frF tp ∧ frF tp ≤ 160 := frF_r ht
  refine CQ.of (own := 10) (n := 1) (ini := false) (rt := (some .int)) (cd := cd137) (by decide +kernel) rfl (by decide +kernel) rfl (Nat.le_of_ble_eq_true rfl) ?_
  refine RQ.seg 2 (pc' := 4) (L' := [some (.ref 0)]) (st' := [.ref 14]) (g1 := (HW sc ar tx oc rl ou tl, q)) rfl ?_
  refine RQ.callQ rfl rfl (x_fwrong ht hs hl hK0 hK1 hK2 hK4 hK5 hK6 hK7 hK8 hK9 hK10 hK11 hK12) (fun rv g1 hc9 => ?_)
  obtain ⟨rfl, sc1, ar1, rfl, hs1, ha1, e1, hX1⟩ := hc9
  refine RQ.seg 1 (pc' := 8) (L' := [some (.ref 0)]) (st' := [.int (iI (-1)), .int (iI (frF tp))]) (g1 := (HW sc1 ar1 tx oc rl ou tl, q)) rfl ?_
  refine RQ.if2 (a := (frF tp)) (b := (-1)) rfl rfl rfl rfl (by omega) (by omega) (fun (h1 : frF tp = (-1)) => ?_) (fun (h1 : ¬ frF tp = (-1)) => ?_)
  · skip
    refine RQ.seg 5 (pc' := 24) (L' := [some (.ref 0)]) (st' := [.ref 15, .ref 3]) (g1 := (HW sc1 ar1 tx oc rl ou tl, q)) rfl ?_
    refine RQ.call rfl rfl (x_copyFront hK0 hK1) ?_
    refine RQ.seg 9 (pc' := 46) (L' := [some (.ref 0)]) (st' := [.ref 13, .ref 31]) (g1 := (HW (usc (usc (usc sc1 101 0) 303 (sc1 1503)) 304 (sc1 1504)) (usc (usc (usc (usc (usc (usc (usc (usc ar1 10 (cpz (ar1 22) (ar1 10) 3)) 11 (cpz (ar1 23) (ar1 11) 3)) 12 (cpz (ar1 24) (ar1 12) 3)) 13 (cpz (ar1 25) (ar1 13) 4)) 5 (cpz (ar1 17) (ar1 5) 4)) 6 (cpz (ar1 18) (ar1 6) 4)) 7 (cpz (ar1 19) (ar1 7) 4)) 8 (cpz (ar1 20) (ar1 8) 4)) tx oc rl ou tl, q)) rfl ?_
    refine RQ.call rfl rfl (x_seBegin (sc := usc (usc (usc sc1 101 0) 303 (sc1 1503)) 304 (sc1 1504)) (ar := usc (usc (usc (usc (usc (usc (usc (usc ar1 10 (cpz (ar1 22) (ar1 10) 3)) 11 (cpz (ar1 23) (ar1 11) 3)) 12 (cpz (ar1 24) (ar1 12) 3)) 13 (cpz (ar1 25) (ar1 13) 4)) 5 (cpz (ar1 17) (ar1 5) 4)) 6 (cpz (ar1 18) (ar1 6) 4)) 7 (cpz (ar1 19) (ar1 7) 4)) 8 (cpz (ar1 20) (ar1 8) 4))) ?_
    refine RQ.hp (g1 := (HW (usc (usc (usc (usc (usc (usc sc1 101 0) 303 (sc1 1503)) 304 (sc1 1504)) 3105 0) 3106 0) 3107 0) (usc (usc (usc (usc (usc (usc (usc (usc (usc (usc (usc (usc ar1 10 (cpz (ar1 22) (ar1 10) 3)) 11 (cpz (ar1 23) (ar1 11) 3)) 12 (cpz (ar1 24) (ar1 12) 3)) 13 (cpz (ar1 25) (ar1 13) 4)) 32 (cpz (cpz (ar1 25) (ar1 13) 4) (ar1 32) 4)) 33 (usz (usz (usz (ar1 33) 0 (-1)) 1 (-1)) 2 (-1))) 37 (usz (usz (usz (ar1 37) 0 0) 1 0) 2 0)) 38 (usz (usz (usz (ar1 38) 0 0) 1 0) 2 0)) 5 (cpz (ar1 17) (ar1 5) 4)) 6 (cpz (ar1 18) (ar1 6) 4)) 7 (cpz (ar1 19) (ar1 7) 4)) 8 (cpz (ar1 20) (ar1 8) 4)) tx oc rl ou tl, q)) (HW_e rfl (by rw [usc_sw _ 8 32 _ _ rfl, usc_sw _ 7 32 _ _ rfl, usc_sw _ 6 32 _ _ rfl, usc_sw _ 5 32 _ _ rfl, usc_sw _ 8 33 _ _ rfl, usc_sw _ 7 33 _ _ rfl, usc_sw _ 6 33 _ _ rfl, usc_sw _ 5 33 _ _ rfl, usc_sw _ 8 37 _ _ rfl, usc_sw _ 7 37 _ _ rfl, usc_sw _ 6 37 _ _ rfl, usc_sw _ 5 37 _ _ rfl, usc_sw _ 8 38 _ _ rfl, usc_sw _ 7 38 _ _ rfl, usc_sw _ 6 38 _ _ rfl, usc_sw _ 5 38 _ _ rfl]; try rfl)) ?_
    refine RQ.seg 5 (pc' := 58) (L' := [some (.ref 0)]) (st' := [.ref 63]) (g1 := (HW (usc (usc (usc (usc (usc (usc (usc sc1 8 0) 101 0) 303 (sc1 1503)) 304 (sc1 1504)) 3105 0) 3106 0) 3107 0) (usc (usc (usc (usc (usc (usc (usc (usc (usc (usc (usc (usc ar1 10 (cpz (ar1 22) (ar1 10) 3)) 11 (cpz (ar1 23) (ar1 11) 3)) 12 (cpz (ar1 24) (ar1 12) 3)) 13 (cpz (ar1 25) (ar1 13) 4)) 32 (cpz (cpz (ar1 25) (ar1 13) 4) (ar1 32) 4)) 33 (usz (usz (usz (ar1 33) 0 (-1)) 1 (-1)) 2 (-1))) 37 (usz (usz (usz (ar1 37) 0 0) 1 0) 2 0)) 38 (usz (usz (usz (ar1 38) 0 0) 1 0) 2 0)) 5 (cpz (ar1 17) (ar1 5) 4)) 6 (cpz (ar1 18) (ar1 6) 4)) 7 (cpz (ar1 19) (ar1 7) 4)) 8 (cpz (ar1 20) (ar1 8) 4)) tx oc rl ou tl, q)) rfl ?_
    refine RQ.call rfl rfl (x_forgetRows (sc := usc (usc (usc (usc (usc (usc (usc sc1 8 0) 101 0) 303 (sc1 1503)) 304 (sc1 1504)) 3105 0) 3106 0) 3107 0) (ar := usc (usc (usc (usc (usc (usc (usc (usc (usc (usc (usc (usc ar1 10 (cpz (ar1 22) (ar1 10) 3)) 11 (cpz (ar1 23) (ar1 11) 3)) 12 (cpz (ar1 24) (ar1 12) 3)) 13 (cpz (ar1 25) (ar1 13) 4)) 32 (cpz (cpz (ar1 25) (ar1 13) 4) (ar1 32) 4)) 33 (usz (usz (usz (ar1 33) 0 (-1)) 1 (-1)) 2 (-1))) 37 (usz (usz (usz (ar1 37) 0 0) 1 0) 2 0)) 38 (usz (usz (usz (ar1 38) 0 0) 1 0) 2 0)) 5 (cpz (ar1 17) (ar1 5) 4)) 6 (cpz (ar1 18) (ar1 6) 4)) 7 (cpz (ar1 19) (ar1 7) 4)) 8 (cpz (ar1 20) (ar1 8) 4))) ?_
    refine RQ.seg 2 (pc' := 65) (L' := [some (.ref 0)]) (st' := [.ref 72]) (g1 := (HW (usc (usc (usc (usc (usc (usc (usc (usc (usc sc1 8 0) 101 0) 303 (sc1 1503)) 304 (sc1 1504)) 3105 0) 3106 0) 3107 0) 6306 0) 6308 0) (usc (usc (usc (usc (usc (usc (usc (usc (usc (usc (usc (usc ar1 10 (cpz (ar1 22) (ar1 10) 3)) 11 (cpz (ar1 23) (ar1 11) 3)) 12 (cpz (ar1 24) (ar1 12) 3)) 13 (cpz (ar1 25) (ar1 13) 4)) 32 (cpz (cpz (ar1 25) (ar1 13) 4) (ar1 32) 4)) 33 (usz (usz (usz (ar1 33) 0 (-1)) 1 (-1)) 2 (-1))) 37 (usz (usz (usz (ar1 37) 0 0) 1 0) 2 0)) 38 (usz (usz (usz (ar1 38) 0 0) 1 0) 2 0)) 5 (cpz (ar1 17) (ar1 5) 4)) 6 (cpz (ar1 18) (ar1 6) 4)) 7 (cpz (ar1 19) (ar1 7) 4)) 8 (cpz (ar1 20) (ar1 8) 4)) tx oc rl ou tl, q)) rfl ?_
    refine RQ.call rfl rfl (x_forgetRests (sc := usc (usc (usc (usc (usc (usc (usc (usc (usc sc1 8 0) 101 0) 303 (sc1 1503)) 304 (sc1 1504)) 3105 0) 3106 0) 3107 0) 6306 0) 6308 0) (ar := usc (usc (usc (usc (usc (usc (usc (usc (usc (usc (usc (usc ar1 10 (cpz (ar1 22) (ar1 10) 3)) 11 (cpz (ar1 23) (ar1 11) 3)) 12 (cpz (ar1 24) (ar1 12) 3)) 13 (cpz (ar1 25) (ar1 13) 4)) 32 (cpz (cpz (ar1 25) (ar1 13) 4) (ar1 32) 4)) 33 (usz (usz (usz (ar1 33) 0 (-1)) 1 (-1)) 2 (-1))) 37 (usz (usz (usz (ar1 37) 0 0) 1 0) 2 0)) 38 (usz (usz (usz (ar1 38) 0 0) 1 0) 2 0)) 5 (cpz (ar1 17) (ar1 5) 4)) 6 (cpz (ar1 18) (ar1 6) 4)) 7 (cpz (ar1 19) (ar1 7) 4)) 8 (cpz (ar1 20) (ar1 8) 4))) ?_
    refine RQ.seg 2 (pc' := 72) (L' := [some (.ref 0)]) (st' := [.ref 77]) (g1 := (HW (usc (usc (usc (usc (usc (usc (usc (usc (usc (usc (usc (usc sc1 8 0) 101 0) 303 (sc1 1503)) 304 (sc1 1504)) 3105 0) 3106 0) 3107 0) 6306 0) 6308 0) 7205 0) 7206 0) 7207 0) (usc (usc (usc (usc (usc (usc (usc (usc (usc (usc (usc (usc ar1 10 (cpz (ar1 22) (ar1 10) 3)) 11 (cpz (ar1 23) (ar1 11) 3)) 12 (cpz (ar1 24) (ar1 12) 3)) 13 (cpz (ar1 25) (ar1 13) 4)) 32 (cpz (cpz (ar1 25) (ar1 13) 4) (ar1 32) 4)) 33 (usz (usz (usz (ar1 33) 0 (-1)) 1 (-1)) 2 (-1))) 37 (usz (usz (usz (ar1 37) 0 0) 1 0) 2 0)) 38 (usz (usz (usz (ar1 38) 0 0) 1 0) 2 0)) 5 (cpz (ar1 17) (ar1 5) 4)) 6 (cpz (ar1 18) (ar1 6) 4)) 7 (cpz (ar1 19) (ar1 7) 4)) 8 (cpz (ar1 20) (ar1 8) 4)) tx oc rl ou tl, q)) rfl ?_
    refine RQ.call rfl rfl (x_forgetExp (sc := usc (usc (usc (usc (usc (usc (usc (usc (usc (usc (usc (usc sc1 8 0) 101 0) 303 (sc1 1503)) 304 (sc1 1504)) 3105 0) 3106 0) 3107 0) 6306 0) 6308 0) 7205 0) 7206 0) 7207 0) (ar := usc (usc (usc (usc (usc (usc (usc (usc (usc (usc (usc (usc ar1 10 (cpz (ar1 22) (ar1 10) 3)) 11 (cpz (ar1 23) (ar1 11) 3)) 12 (cpz (ar1 24) (ar1 12) 3)) 13 (cpz (ar1 25) (ar1 13) 4)) 32 (cpz (cpz (ar1 25) (ar1 13) 4) (ar1 32) 4)) 33 (usz (usz (usz (ar1 33) 0 (-1)) 1 (-1)) 2 (-1))) 37 (usz (usz (usz (ar1 37) 0 0) 1 0) 2 0)) 38 (usz (usz (usz (ar1 38) 0 0) 1 0) 2 0)) 5 (cpz (ar1 17) (ar1 5) 4)) 6 (cpz (ar1 18) (ar1 6) 4)) 7 (cpz (ar1 19) (ar1 7) 4)) 8 (cpz (ar1 20) (ar1 8) 4))) ?_
    refine RQ.seg 3 (pc' := 82) (L' := [some (.ref 0)]) (st' := [.int (iI (sc1 1504))]) (g1 := (HW (usc (usc (usc (usc (usc (usc (usc (usc (usc (usc (usc (usc (usc sc1 8 0) 101 0) 303 (sc1 1503)) 304 (sc1 1504)) 3105 0) 3106 0) 3107 0) 6306 0) 6308 0) 7205 0) 7206 0) 7207 0) 7703 0) (usc (usc (usc (usc (usc (usc (usc (usc (usc (usc (usc (usc ar1 10 (cpz (ar1 22) (ar1 10) 3)) 11 (cpz (ar1 23) (ar1 11) 3)) 12 (cpz (ar1 24) (ar1 12) 3)) 13 (cpz (ar1 25) (ar1 13) 4)) 32 (cpz (cpz (ar1 25) (ar1 13) 4) (ar1 32) 4)) 33 (usz (usz (usz (ar1 33) 0 (-1)) 1 (-1)) 2 (-1))) 37 (usz (usz (usz (ar1 37) 0 0) 1 0) 2 0)) 38 (usz (usz (usz (ar1 38) 0 0) 1 0) 2 0)) 5 (cpz (ar1 17) (ar1 5) 4)) 6 (cpz (ar1 18) (ar1 6) 4)) 7 (cpz (ar1 19) (ar1 7) 4)) 8 (cpz (ar1 20) (ar1 8) 4)) tx oc rl ou tl, q)) rfl ?_
    refine RQ.ret rfl rfl ?_
    obtain ⟨⟨z1, z2, z3, z4, z5, z6, z7⟩, hO⟩ := hX1 (by omega)
    refine ⟨by rw [show sText0 tp = fB (fr9 tp) from if_pos (by omega), ← z4], _, _, rfl, Same.tr (Same.w rfl hs1) (by repeat (first | exact Same.rf | refine Same.us rfl ?_)), Same.tr (Same.w rfl ha1) (by repeat (first | exact Same.rf | refine Same.us rfl ?_)), fun _ => ⟨hO, ⟨z3, z4, fun j j0 j1 => ?_, fun j j0 j1 => ?_⟩, fun j j0 j1 => ?_, ⟨⟨fun j j0 j1 => ?_, fun b b0 b1 => us3 b0 b1, rfl, fun k k0 k1 => absurd (show k < 0 from k1) (by omega)⟩, rfl, rfl, fun b b0 b1 => ⟨us3 b0 b1, us3 b0 b1⟩, fun i b i0 i1 => absurd (show i < 0 from i1) (by omega)⟩, rfl, rfl, rfl, rfl, rfl, rfl, rfl⟩, fun z => absurd (show frF tp = -1 by omega) z⟩
    · obtain ⟨c0, c1, c2, c3⟩ := z5 j j0 j1
      exact ⟨fun z => (cpz_l j1).trans (c0 z), fun z => (cpz_l j1).trans (c1 z), fun z => (cpz_l j1).trans (c2 z), fun z => (cpz_l j1).trans (c3 z)⟩
    · obtain ⟨c0, c1, c2⟩ := z6 j j0 j1
      exact ⟨fun z => (cpz_l j1).trans (c0 z), fun z => (cpz_l j1).trans (c1 z), fun z => (cpz_l j1).trans (c2 z)⟩
    · exact (cpz_l j1).trans (z7 j j0 j1)
    · exact (cpz_l j1).trans ((cpz_l j1).trans (z7 j j0 j1))
  · skip
    refine RQ.seg 1 (pc' := 12) (L' := [some (.ref 0)]) (st' := [.int (iI (-1))]) (g1 := (HW sc1 ar1 tx oc rl ou tl, q)) rfl ?_
    refine RQ.ret rfl rfl ?_
    refine ⟨by rw [show sText0 tp = -1 from if_neg (by omega)], _, _, rfl, Same.w rfl hs1, Same.w rfl ha1, fun z => absurd z (by omega), fun _ => ⟨hs1, ha1⟩⟩
