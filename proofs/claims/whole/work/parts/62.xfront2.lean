/-! the class reads a front: clauses, by wip/tools -/
/-! the class reads a front: clauses, the first wrong byte -/
def FdX (S : FS) (sc : Nat → Int) (ar : Nat → Int → Int) : Prop := sc 1401 = fA S ∧ sc 1404 = fL S ∧ sc 1503 = fW S ∧ sc 1504 = fB S ∧ (∀ j, 0 ≤ j → j < 4 → (0 < fW S → ar 17 j = gW S 0 j) ∧ (1 < fW S → ar 18 j = gW S 1 j) ∧ (2 < fW S → ar 19 j = gW S 2 j) ∧ (3 < fW S → ar 20 j = gW S 3 j)) ∧ (∀ j, 0 ≤ j → j < 3 → (0 < fB S → ar 22 j = gB S 0 j) ∧ (1 < fB S → ar 23 j = gB S 1 j) ∧ (2 < fB S → ar 24 j = gB S 2 j)) ∧ (∀ j, 0 ≤ j → j < 4 → ar 25 j = gL S j)
def FsOK (tp : List Int) (S : FS) : Prop := (0 ≤ fA S ∧ fA S ≤ (tp.length : Int)) ∧ (0 ≤ fW S ∧ fW S ≤ 4) ∧ (0 ≤ fB S ∧ fB S ≤ 3) ∧ (0 ≤ fL S ∧ fL S ≤ 1) ∧ (fL S = 0 → gL S = kc4)
theorem its_r {pos lo hi : Int → Int} {tp : List Int} (hp : ∀ c, -1 ≤ pos c ∧ pos c ≤ 3 ∧ (pos c ≠ -1 → c ≠ 0)) : ∀ (m : Nat) (t a : Int) (v : Int → Int), (0 ≤ a ∧ a ≤ (tp.length : Int)) → (0 ≤ (its pos lo hi tp m t a v).2.1 ∧ (its pos lo hi tp m t a v).2.1 ≤ (tp.length : Int)) ∧ (-1 ≤ (its pos lo hi tp m t a v).1 ∧ (its pos lo hi tp m t a v).1 ≤ (tp.length : Int))
  | 0, t, a, v, h => ⟨h, by show (-1 : Int) ≤ -1; omega, by show (-1 : Int) ≤ (tp.length : Int); omega⟩
  | m + 1, t, a, v, h => by
    have hs := sk_r (tp := tp) h.2
    have h1 := hp (lk tp a)
    rw [its]
    split
    · dsimp only; omega
    · split
      · dsimp only; omega
      · rename_i hne hbt
        have h2 := tch_pos (tp := tp) (p := sk tp a) (h1.2.2 hne)
        have h3 := itR_r (tp := tp) (lo := lo (pos (lk tp a))) (hi := hi (pos (lk tp a))) (a := sk tp a + 1) (by omega)
        split
        · dsimp only; omega
        · exact its_r hp m _ _ _ (by omega)
theorem iW_r {tp : List Int} {p : Int} (h : 0 ≤ p ∧ p ≤ (tp.length : Int)) : (0 ≤ (iW tp p).2.1 ∧ (iW tp p).2.1 ≤ (tp.length : Int)) ∧ (-1 ≤ (iW tp p).1 ∧ (iW tp p).1 ≤ (tp.length : Int)) := its_r pw_r 5 0 p kc5 h
theorem iB_r {tp : List Int} {p : Int} (h : 0 ≤ p ∧ p ≤ (tp.length : Int)) : (0 ≤ (iB tp p).2.1 ∧ (iB tp p).2.1 ≤ (tp.length : Int)) ∧ (-1 ≤ (iB tp p).1 ∧ (iB tp p).1 ≤ (tp.length : Int)) := its_r (fun c => ⟨(pb_r c).1, by have := (pb_r c).2.1; omega, (pb_r c).2.2⟩) 4 0 p kc8 h
theorem iL_r {tp : List Int} {p : Int} (h : 0 ≤ p ∧ p ≤ (tp.length : Int)) : (0 ≤ (iL tp p).2.1 ∧ (iL tp p).2.1 ≤ (tp.length : Int)) ∧ (-1 ≤ (iL tp p).1 ∧ (iL tp p).1 ≤ (tp.length : Int)) := its_r pl_r 5 0 p kc4 h
theorem clz_ok {tp : List Int} {S : FS} (h : FsOK tp S) : (FsOK tp (cls tp S) ∧ fW (cls tp S) + fB (cls tp S) + fL (cls tp S) ≤ fW S + fB S + fL S + 1 ∧ (fE (cls tp S) = -1 → fW (cls tp S) + fB (cls tp S) + fL (cls tp S) = fW S + fB S + fL S + 1)) ∧ (-1 ≤ fE (cls tp S) ∧ fE (cls tp S) ≤ (tp.length : Int)) := by
  obtain ⟨h1, h2, h3, h4, h5⟩ := h
  have hs := sk_r (tp := tp) h1.2
  unfold cls
  by_cases c1 : lk tp (fA S) = 119 ∧ fW S < 4
  · have hp := tch_pos (tp := tp) (p := sk tp (fA S)) (by show lk tp (fA S) ≠ 0; omega)
    have hr := iW_r (tp := tp) (p := sk tp (fA S) + 1) (by omega)
    rw [if_pos c1]
    exact ⟨⟨⟨hr.1, by show 0 ≤ fW S + 1 ∧ fW S + 1 ≤ 4; omega, h3, h4, h5⟩, by show fW S + 1 + fB S + fL S ≤ _; omega, fun _ => by show fW S + 1 + fB S + fL S = _; omega⟩, hr.2⟩
  · rw [if_neg c1]
    by_cases c2 : lk tp (fA S) = 98 ∧ fB S < 3
    · have hp := tch_pos (tp := tp) (p := sk tp (fA S)) (by show lk tp (fA S) ≠ 0; omega)
      have hr := iB_r (tp := tp) (p := sk tp (fA S) + 1) (by omega)
      rw [if_pos c2]
      exact ⟨⟨⟨hr.1, h2, by show 0 ≤ fB S + 1 ∧ fB S + 1 ≤ 3; omega, h4, h5⟩, by show fW S + (fB S + 1) + fL S ≤ _; omega, fun _ => by show fW S + (fB S + 1) + fL S = _; omega⟩, hr.2⟩
    · rw [if_neg c2]
      by_cases c3 : lk tp (fA S) = 108 ∧ fL S = 0
      · have hp := tch_pos (tp := tp) (p := sk tp (fA S)) (by show lk tp (fA S) ≠ 0; omega)
        have hr := iL_r (tp := tp) (p := sk tp (fA S) + 1) (by omega)
        rw [if_pos c3]
        exact ⟨⟨⟨hr.1, h2, h3, by show (0 : Int) ≤ 1 ∧ (1 : Int) ≤ 1; omega, fun z => absurd (show (1 : Int) = 0 from z) (by omega)⟩, by show fW S + fB S + 1 ≤ _; omega, fun _ => by show fW S + fB S + 1 = _; omega⟩, hr.2⟩
      · rw [if_neg c3]
        exact ⟨⟨⟨by show 0 ≤ sk tp (fA S) ∧ sk tp (fA S) ≤ _; omega, h2, h3, h4, h5⟩, by show fW S + fB S + fL S ≤ _; omega, fun z => absurd (show sk tp (fA S) = -1 from z) (by omega)⟩, by show -1 ≤ sk tp (fA S) ∧ sk tp (fA S) ≤ _; omega⟩
theorem FsOK.at {tp : List Int} {S : FS} (h : FsOK tp S) {e a : Int} (ha : 0 ≤ a ∧ a ≤ (tp.length : Int)) : FsOK tp (fAt S e a) := ⟨ha, h.2.1, h.2.2.1, h.2.2.2.1, h.2.2.2.2⟩
def rfr (tp : List Int) (T : FS) : Int := if fE T ≠ -1 then fE T else if fW T = 0 ∨ fB T = 0 then (tp.length : Int) else -1
theorem x_items_w0 {K : PK} {d : Nat} {sc : Nat → Int} {ar : Nat → Int → Int} {tx oc : Nat} {rl : Nat → Option Nat} {ou : Nat → Int64} {tl : List PO} {q : Nat × Nat} {tp : List Int} (ht : TpOK tp) (hs : sc 101 = (tp.length : Int)) (hl : LAt (fun v => v) (ar 2) tp) (hK0 : K 0 = some (4, zA kc0)) (hK6 : K 6 = some (4, zA kc6)) (hK7 : K 7 = some (4, zA kc7)) {p : Int} {v : Int → Int} (ha : sc 1401 = p) (hp : 0 ≤ p ∧ p < (tp.length : Int)) (hw : sc 1402 = -1) (hf : ∀ j, 0 ≤ j → j < 4 → ar 17 j = v j) : CQ K (d + 4) 27 [.ref 14, .retAddr 0, .retAddr 6, .retAddr 7, .ref 17] (HW sc ar tx oc rl ou tl, q) (fun r g' => r = none ∧ ∃ a' w' f', g' = (HW (usc (usc sc 1401 a') 1402 w') (usc ar 17 f') tx oc rl ou tl, q) ∧ (-1 ≤ w' ∧ w' ≤ 160) ∧ (0 ≤ a' ∧ a' ≤ (tp.length : Int)) ∧ w' = (its pw kc6 kc7 tp 5 0 (p + 1) v).1 ∧ ((its pw kc6 kc7 tp 5 0 (p + 1) v).1 = -1 → a' = (its pw kc6 kc7 tp 5 0 (p + 1) v).2.1 ∧ ∀ j, 0 ≤ j → j < 4 → f' j = (its pw kc6 kc7 tp 5 0 (p + 1) v).2.2 j)) := by
  have ht1 := ht.1
  refine CQ.of (own := 3) (n := 8) (ini := false) (rt := none) (cd := cd27) (by decide +kernel) rfl (by decide +kernel) rfl (Nat.le_of_ble_eq_true rfl) ?_
  refine RQ.seg 3 (pc' := 5) (L' := [some (.ref 14), some (.retAddr 0), some (.retAddr 6), some (.retAddr 7), some (.ref 17), none, none, none]) (st' := [.int (iI (sc 1401)), .ref 14]) (g1 := (HW sc ar tx oc rl ou tl, q)) rfl ?_
  refine RQ.to (L' := [some (.ref 14), some (.retAddr 0), some (.retAddr 6), some (.retAddr 7), some (.ref 17), none, none, none]) (st' := [.int (iI p), .ref 14]) rfl (by rw [show sc 1401 = p from ha]) ?_
  refine RQ.seg 2 (pc' := 7) (L' := [some (.ref 14), some (.retAddr 0), some (.retAddr 6), some (.retAddr 7), some (.ref 17), none, none, none]) (st' := [.int ((iI p) + (iI 1)), .ref 14]) (g1 := (HW sc ar tx oc rl ou tl, q)) rfl ?_
  refine RQ.to (L' := [some (.ref 14), some (.retAddr 0), some (.retAddr 6), some (.retAddr 7), some (.ref 17), none, none, none]) (st' := [.int (iI (p + 1)), .ref 14]) rfl (by simp only [iI_add, iI_sub, iI_mul, iI_neg]) ?_
  refine RQ.seg 5 (pc' := 16) (L' := [some (.ref 14), some (.retAddr 0), some (.retAddr 6), some (.retAddr 7), some (.ref 17), some (.int (iI 0)), some (.int (iI 0)), none]) (st' := []) (g1 := (HW (usc sc 1401 (p + 1)) ar tx oc rl ou tl, q)) rfl ?_
  refine RQ.hp (g1 := (HW (usc (usc sc 1401 (p + 1)) 1402 (-1)) ar tx oc rl ou tl, q)) (HW_e (by rw [show (-1 : Int) = (usc sc 1401 (p + 1)) 1402 from hw.symm]; exact (usc_id _ 1402).symm) rfl) ?_
  refine RQ.hp (g1 := (HW (usc (usc sc 1401 (p + 1)) 1402 (-1)) (usc ar 17 (ar 17)) tx oc rl ou tl, q)) (congrArg (fun a => (HW (usc (usc sc 1401 (p + 1)) 1402 (-1)) a tx oc rl ou tl, q)) (show ar = usc ar 17 (ar 17) by funext j; unfold usc; cases hb : Nat.beq j 17 <;> first | rfl | (rw [Nat.eq_of_beq_eq_true hb]; rfl))) ?_
  exact x_itw0_l ht hs hl hK0 hK6 hK7 5 0 0 (p + 1) (ar 17) v _ (by omega) (by omega) (by omega) rfl (by omega) hf (fun a' w' f' q1 q2 q3 q4 => ⟨rfl, a', w', f', rfl, q1, q2, q3, q4⟩)
theorem x_items_w1 {K : PK} {d : Nat} {sc : Nat → Int} {ar : Nat → Int → Int} {tx oc : Nat} {rl : Nat → Option Nat} {ou : Nat → Int64} {tl : List PO} {q : Nat × Nat} {tp : List Int} (ht : TpOK tp) (hs : sc 101 = (tp.length : Int)) (hl : LAt (fun v => v) (ar 2) tp) (hK0 : K 0 = some (4, zA kc0)) (hK6 : K 6 = some (4, zA kc6)) (hK7 : K 7 = some (4, zA kc7)) {p : Int} {v : Int → Int} (ha : sc 1401 = p) (hp : 0 ≤ p ∧ p < (tp.length : Int)) (hw : sc 1402 = -1) (hf : ∀ j, 0 ≤ j → j < 4 → ar 18 j = v j) : CQ K (d + 4) 27 [.ref 14, .retAddr 0, .retAddr 6, .retAddr 7, .ref 18] (HW sc ar tx oc rl ou tl, q) (fun r g' => r = none ∧ ∃ a' w' f', g' = (HW (usc (usc sc 1401 a') 1402 w') (usc ar 18 f') tx oc rl ou tl, q) ∧ (-1 ≤ w' ∧ w' ≤ 160) ∧ (0 ≤ a' ∧ a' ≤ (tp.length : Int)) ∧ w' = (its pw kc6 kc7 tp 5 0 (p + 1) v).1 ∧ ((its pw kc6 kc7 tp 5 0 (p + 1) v).1 = -1 → a' = (its pw kc6 kc7 tp 5 0 (p + 1) v).2.1 ∧ ∀ j, 0 ≤ j → j < 4 → f' j = (its pw kc6 kc7 tp 5 0 (p + 1) v).2.2 j)) := by
  have ht1 := ht.1
  refine CQ.of (own := 3) (n := 8) (ini := false) (rt := none) (cd := cd27) (by decide +kernel) rfl (by decide +kernel) rfl (Nat.le_of_ble_eq_true rfl) ?_
  refine RQ.seg 3 (pc' := 5) (L' := [some (.ref 14), some (.retAddr 0), some (.retAddr 6), some (.retAddr 7), some (.ref 18), none, none, none]) (st' := [.int (iI (sc 1401)), .ref 14]) (g1 := (HW sc ar tx oc rl ou tl, q)) rfl ?_
  refine RQ.to (L' := [some (.ref 14), some (.retAddr 0), some (.retAddr 6), some (.retAddr 7), some (.ref 18), none, none, none]) (st' := [.int (iI p), .ref 14]) rfl (by rw [show sc 1401 = p from ha]) ?_
  refine RQ.seg 2 (pc' := 7) (L' := [some (.ref 14), some (.retAddr 0), some (.retAddr 6), some (.retAddr 7), some (.ref 18), none, none, none]) (st' := [.int ((iI p) + (iI 1)), .ref 14]) (g1 := (HW sc ar tx oc rl ou tl, q)) rfl ?_
  refine RQ.to (L' := [some (.ref 14), some (.retAddr 0), some (.retAddr 6), some (.retAddr 7), some (.ref 18), none, none, none]) (st' := [.int (iI (p + 1)), .ref 14]) rfl (by simp only [iI_add, iI_sub, iI_mul, iI_neg]) ?_
  refine RQ.seg 5 (pc' := 16) (L' := [some (.ref 14), some (.retAddr 0), some (.retAddr 6), some (.retAddr 7), some (.ref 18), some (.int (iI 0)), some (.int (iI 0)), none]) (st' := []) (g1 := (HW (usc sc 1401 (p + 1)) ar tx oc rl ou tl, q)) rfl ?_
  refine RQ.hp (g1 := (HW (usc (usc sc 1401 (p + 1)) 1402 (-1)) ar tx oc rl ou tl, q)) (HW_e (by rw [show (-1 : Int) = (usc sc 1401 (p + 1)) 1402 from hw.symm]; exact (usc_id _ 1402).symm) rfl) ?_
  refine RQ.hp (g1 := (HW (usc (usc sc 1401 (p + 1)) 1402 (-1)) (usc ar 18 (ar 18)) tx oc rl ou tl, q)) (congrArg (fun a => (HW (usc (usc sc 1401 (p + 1)) 1402 (-1)) a tx oc rl ou tl, q)) (show ar = usc ar 18 (ar 18) by funext j; unfold usc; cases hb : Nat.beq j 18 <;> first | rfl | (rw [Nat.eq_of_beq_eq_true hb]; rfl))) ?_
  exact x_itw1_l ht hs hl hK0 hK6 hK7 5 0 0 (p + 1) (ar 18) v _ (by omega) (by omega) (by omega) rfl (by omega) hf (fun a' w' f' q1 q2 q3 q4 => ⟨rfl, a', w', f', rfl, q1, q2, q3, q4⟩)
theorem x_items_w2 {K : PK} {d : Nat} {sc : Nat → Int} {ar : Nat → Int → Int} {tx oc : Nat} {rl : Nat → Option Nat} {ou : Nat → Int64} {tl : List PO} {q : Nat × Nat} {tp : List Int} (ht : TpOK tp) (hs : sc 101 = (tp.length : Int)) (hl : LAt (fun v => v) (ar 2) tp) (hK0 : K 0 = some (4, zA kc0)) (hK6 : K 6 = some (4, zA kc6)) (hK7 : K 7 = some (4, zA kc7)) {p : Int} {v : Int → Int} (ha : sc 1401 = p) (hp : 0 ≤ p ∧ p < (tp.length : Int)) (hw : sc 1402 = -1) (hf : ∀ j, 0 ≤ j → j < 4 → ar 19 j = v j) : CQ K (d + 4) 27 [.ref 14, .retAddr 0, .retAddr 6, .retAddr 7, .ref 19] (HW sc ar tx oc rl ou tl, q) (fun r g' => r = none ∧ ∃ a' w' f', g' = (HW (usc (usc sc 1401 a') 1402 w') (usc ar 19 f') tx oc rl ou tl, q) ∧ (-1 ≤ w' ∧ w' ≤ 160) ∧ (0 ≤ a' ∧ a' ≤ (tp.length : Int)) ∧ w' = (its pw kc6 kc7 tp 5 0 (p + 1) v).1 ∧ ((its pw kc6 kc7 tp 5 0 (p + 1) v).1 = -1 → a' = (its pw kc6 kc7 tp 5 0 (p + 1) v).2.1 ∧ ∀ j, 0 ≤ j → j < 4 → f' j = (its pw kc6 kc7 tp 5 0 (p + 1) v).2.2 j)) := by
  have ht1 := ht.1
  refine CQ.of (own := 3) (n := 8) (ini := false) (rt := none) (cd := cd27) (by decide +kernel) rfl (by decide +kernel) rfl (Nat.le_of_ble_eq_true rfl) ?_
  refine RQ.seg 3 (pc' := 5) (L' := [some (.ref 14), some (.retAddr 0), some (.retAddr 6), some (.retAddr 7), some (.ref 19), none, none, none]) (st' := [.int (iI (sc 1401)), .ref 14]) (g1 := (HW sc ar tx oc rl ou tl, q)) rfl ?_
  refine RQ.to (L' := [some (.ref 14), some (.retAddr 0), some (.retAddr 6), some (.retAddr 7), some (.ref 19), none, none, none]) (st' := [.int (iI p), .ref 14]) rfl (by rw [show sc 1401 = p from ha]) ?_
  refine RQ.seg 2 (pc' := 7) (L' := [some (.ref 14), some (.retAddr 0), some (.retAddr 6), some (.retAddr 7), some (.ref 19), none, none, none]) (st' := [.int ((iI p) + (iI 1)), .ref 14]) (g1 := (HW sc ar tx oc rl ou tl, q)) rfl ?_
  refine RQ.to (L' := [some (.ref 14), some (.retAddr 0), some (.retAddr 6), some (.retAddr 7), some (.ref 19), none, none, none]) (st' := [.int (iI (p + 1)), .ref 14]) rfl (by simp only [iI_add, iI_sub, iI_mul, iI_neg]) ?_
  refine RQ.seg 5 (pc' := 16) (L' := [some (.ref 14), some (.retAddr 0), some (.retAddr 6), some (.retAddr 7), some (.ref 19), some (.int (iI 0)), some (.int (iI 0)), none]) (st' := []) (g1 := (HW (usc sc 1401 (p + 1)) ar tx oc rl ou tl, q)) rfl ?_
  refine RQ.hp (g1 := (HW (usc (usc sc 1401 (p + 1)) 1402 (-1)) ar tx oc rl ou tl, q)) (HW_e (by rw [show (-1 : Int) = (usc sc 1401 (p + 1)) 1402 from hw.symm]; exact (usc_id _ 1402).symm) rfl) ?_
  refine RQ.hp (g1 := (HW (usc (usc sc 1401 (p + 1)) 1402 (-1)) (usc ar 19 (ar 19)) tx oc rl ou tl, q)) (congrArg (fun a => (HW (usc (usc sc 1401 (p + 1)) 1402 (-1)) a tx oc rl ou tl, q)) (show ar = usc ar 19 (ar 19) by funext j; unfold usc; cases hb : Nat.beq j 19 <;> first | rfl | (rw [Nat.eq_of_beq_eq_true hb]; rfl))) ?_
  exact x_itw2_l ht hs hl hK0 hK6 hK7 5 0 0 (p + 1) (ar 19) v _ (by omega) (by omega) (by omega) rfl (by omega) hf (fun a' w' f' q1 q2 q3 q4 => ⟨rfl, a', w', f', rfl, q1, q2, q3, q4⟩)
theorem x_items_w3 {K : PK} {d : Nat} {sc : Nat → Int} {ar : Nat → Int → Int} {tx oc : Nat} {rl : Nat → Option Nat} {ou : Nat → Int64} {tl : List PO} {q : Nat × Nat} {tp : List Int} (ht : TpOK tp) (hs : sc 101 = (tp.length : Int)) (hl : LAt (fun v => v) (ar 2) tp) (hK0 : K 0 = some (4, zA kc0)) (hK6 : K 6 = some (4, zA kc6)) (hK7 : K 7 = some (4, zA kc7)) {p : Int} {v : Int → Int} (ha : sc 1401 = p) (hp : 0 ≤ p ∧ p < (tp.length : Int)) (hw : sc 1402 = -1) (hf : ∀ j, 0 ≤ j → j < 4 → ar 20 j = v j) : CQ K (d + 4) 27 [.ref 14, .retAddr 0, .retAddr 6, .retAddr 7, .ref 20] (HW sc ar tx oc rl ou tl, q) (fun r g' => r = none ∧ ∃ a' w' f', g' = (HW (usc (usc sc 1401 a') 1402 w') (usc ar 20 f') tx oc rl ou tl, q) ∧ (-1 ≤ w' ∧ w' ≤ 160) ∧ (0 ≤ a' ∧ a' ≤ (tp.length : Int)) ∧ w' = (its pw kc6 kc7 tp 5 0 (p + 1) v).1 ∧ ((its pw kc6 kc7 tp 5 0 (p + 1) v).1 = -1 → a' = (its pw kc6 kc7 tp 5 0 (p + 1) v).2.1 ∧ ∀ j, 0 ≤ j → j < 4 → f' j = (its pw kc6 kc7 tp 5 0 (p + 1) v).2.2 j)) := by
  have ht1 := ht.1
  refine CQ.of (own := 3) (n := 8) (ini := false) (rt := none) (cd := cd27) (by decide +kernel) rfl (by decide +kernel) rfl (Nat.le_of_ble_eq_true rfl) ?_
  refine RQ.seg 3 (pc' := 5) (L' := [some (.ref 14), some (.retAddr 0), some (.retAddr 6), some (.retAddr 7), some (.ref 20), none, none, none]) (st' := [.int (iI (sc 1401)), .ref 14]) (g1 := (HW sc ar tx oc rl ou tl, q)) rfl ?_
  refine RQ.to (L' := [some (.ref 14), some (.retAddr 0), some (.retAddr 6), some (.retAddr 7), some (.ref 20), none, none, none]) (st' := [.int (iI p), .ref 14]) rfl (by rw [show sc 1401 = p from ha]) ?_
  refine RQ.seg 2 (pc' := 7) (L' := [some (.ref 14), some (.retAddr 0), some (.retAddr 6), some (.retAddr 7), some (.ref 20), none, none, none]) (st' := [.int ((iI p) + (iI 1)), .ref 14]) (g1 := (HW sc ar tx oc rl ou tl, q)) rfl ?_
  refine RQ.to (L' := [some (.ref 14), some (.retAddr 0), some (.retAddr 6), some (.retAddr 7), some (.ref 20), none, none, none]) (st' := [.int (iI (p + 1)), .ref 14]) rfl (by simp only [iI_add, iI_sub, iI_mul, iI_neg]) ?_
  refine RQ.seg 5 (pc' := 16) (L' := [some (.ref 14), some (.retAddr 0), some (.retAddr 6), some (.retAddr 7), some (.ref 20), some (.int (iI 0)), some (.int (iI 0)), none]) (st' := []) (g1 := (HW (usc sc 1401 (p + 1)) ar tx oc rl ou tl, q)) rfl ?_
  refine RQ.hp (g1 := (HW (usc (usc sc 1401 (p + 1)) 1402 (-1)) ar tx oc rl ou tl, q)) (HW_e (by rw [show (-1 : Int) = (usc sc 1401 (p + 1)) 1402 from hw.symm]; exact (usc_id _ 1402).symm) rfl) ?_
  refine RQ.hp (g1 := (HW (usc (usc sc 1401 (p + 1)) 1402 (-1)) (usc ar 20 (ar 20)) tx oc rl ou tl, q)) (congrArg (fun a => (HW (usc (usc sc 1401 (p + 1)) 1402 (-1)) a tx oc rl ou tl, q)) (show ar = usc ar 20 (ar 20) by funext j; unfold usc; cases hb : Nat.beq j 20 <;> first | rfl | (rw [Nat.eq_of_beq_eq_true hb]; rfl))) ?_
  exact x_itw3_l ht hs hl hK0 hK6 hK7 5 0 0 (p + 1) (ar 20) v _ (by omega) (by omega) (by omega) rfl (by omega) hf (fun a' w' f' q1 q2 q3 q4 => ⟨rfl, a', w', f', rfl, q1, q2, q3, q4⟩)
theorem x_items_b0 {K : PK} {d : Nat} {sc : Nat → Int} {ar : Nat → Int → Int} {tx oc : Nat} {rl : Nat → Option Nat} {ou : Nat → Int64} {tl : List PO} {q : Nat × Nat} {tp : List Int} (ht : TpOK tp) (hs : sc 101 = (tp.length : Int)) (hl : LAt (fun v => v) (ar 2) tp) (hK1 : K 1 = some (3, zA kc1)) (hK9 : K 9 = some (3, zA kc9)) (hK10 : K 10 = some (3, zA kc10)) {p : Int} {v : Int → Int} (ha : sc 1401 = p) (hp : 0 ≤ p ∧ p < (tp.length : Int)) (hw : sc 1402 = -1) (hf : ∀ j, 0 ≤ j → j < 3 → ar 22 j = v j) : CQ K (d + 4) 27 [.ref 14, .retAddr 1, .retAddr 9, .retAddr 10, .ref 22] (HW sc ar tx oc rl ou tl, q) (fun r g' => r = none ∧ ∃ a' w' f', g' = (HW (usc (usc sc 1401 a') 1402 w') (usc ar 22 f') tx oc rl ou tl, q) ∧ (-1 ≤ w' ∧ w' ≤ 160) ∧ (0 ≤ a' ∧ a' ≤ (tp.length : Int)) ∧ w' = (its pb kc9 kc10 tp 4 0 (p + 1) v).1 ∧ ((its pb kc9 kc10 tp 4 0 (p + 1) v).1 = -1 → a' = (its pb kc9 kc10 tp 4 0 (p + 1) v).2.1 ∧ ∀ j, 0 ≤ j → j < 3 → f' j = (its pb kc9 kc10 tp 4 0 (p + 1) v).2.2 j)) := by
  have ht1 := ht.1
  refine CQ.of (own := 3) (n := 8) (ini := false) (rt := none) (cd := cd27) (by decide +kernel) rfl (by decide +kernel) rfl (Nat.le_of_ble_eq_true rfl) ?_
  refine RQ.seg 3 (pc' := 5) (L' := [some (.ref 14), some (.retAddr 1), some (.retAddr 9), some (.retAddr 10), some (.ref 22), none, none, none]) (st' := [.int (iI (sc 1401)), .ref 14]) (g1 := (HW sc ar tx oc rl ou tl, q)) rfl ?_
  refine RQ.to (L' := [some (.ref 14), some (.retAddr 1), some (.retAddr 9), some (.retAddr 10), some (.ref 22), none, none, none]) (st' := [.int (iI p), .ref 14]) rfl (by rw [show sc 1401 = p from ha]) ?_
  refine RQ.seg 2 (pc' := 7) (L' := [some (.ref 14), some (.retAddr 1), some (.retAddr 9), some (.retAddr 10), some (.ref 22), none, none, none]) (st' := [.int ((iI p) + (iI 1)), .ref 14]) (g1 := (HW sc ar tx oc rl ou tl, q)) rfl ?_
  refine RQ.to (L' := [some (.ref 14), some (.retAddr 1), some (.retAddr 9), some (.retAddr 10), some (.ref 22), none, none, none]) (st' := [.int (iI (p + 1)), .ref 14]) rfl (by simp only [iI_add, iI_sub, iI_mul, iI_neg]) ?_
  refine RQ.seg 5 (pc' := 16) (L' := [some (.ref 14), some (.retAddr 1), some (.retAddr 9), some (.retAddr 10), some (.ref 22), some (.int (iI 0)), some (.int (iI 0)), none]) (st' := []) (g1 := (HW (usc sc 1401 (p + 1)) ar tx oc rl ou tl, q)) rfl ?_
  refine RQ.hp (g1 := (HW (usc (usc sc 1401 (p + 1)) 1402 (-1)) ar tx oc rl ou tl, q)) (HW_e (by rw [show (-1 : Int) = (usc sc 1401 (p + 1)) 1402 from hw.symm]; exact (usc_id _ 1402).symm) rfl) ?_
  refine RQ.hp (g1 := (HW (usc (usc sc 1401 (p + 1)) 1402 (-1)) (usc ar 22 (ar 22)) tx oc rl ou tl, q)) (congrArg (fun a => (HW (usc (usc sc 1401 (p + 1)) 1402 (-1)) a tx oc rl ou tl, q)) (show ar = usc ar 22 (ar 22) by funext j; unfold usc; cases hb : Nat.beq j 22 <;> first | rfl | (rw [Nat.eq_of_beq_eq_true hb]; rfl))) ?_
  exact x_itb0_l ht hs hl hK1 hK9 hK10 4 0 0 (p + 1) (ar 22) v _ (by omega) (by omega) (by omega) rfl (by omega) hf (fun a' w' f' q1 q2 q3 q4 => ⟨rfl, a', w', f', rfl, q1, q2, q3, q4⟩)
theorem x_items_b1 {K : PK} {d : Nat} {sc : Nat → Int} {ar : Nat → Int → Int} {tx oc : Nat} {rl : Nat → Option Nat} {ou : Nat → Int64} {tl : List PO} {q : Nat × Nat} {tp : List Int} (ht : TpOK tp) (hs : sc 101 = (tp.length : Int)) (hl : LAt (fun v => v) (ar 2) tp) (hK1 : K 1 = some (3, zA kc1)) (hK9 : K 9 = some (3, zA kc9)) (hK10 : K 10 = some (3, zA kc10)) {p : Int} {v : Int → Int} (ha : sc 1401 = p) (hp : 0 ≤ p ∧ p < (tp.length : Int)) (hw : sc 1402 = -1) (hf : ∀ j, 0 ≤ j → j < 3 → ar 23 j = v j) : CQ K (d + 4) 27 [.ref 14, .retAddr 1, .retAddr 9, .retAddr 10, .ref 23] (HW sc ar tx oc rl ou tl, q) (fun r g' => r = none ∧ ∃ a' w' f', g' = (HW (usc (usc sc 1401 a') 1402 w') (usc ar 23 f') tx oc rl ou tl, q) ∧ (-1 ≤ w' ∧ w' ≤ 160) ∧ (0 ≤ a' ∧ a' ≤ (tp.length : Int)) ∧ w' = (its pb kc9 kc10 tp 4 0 (p + 1) v).1 ∧ ((its pb kc9 kc10 tp 4 0 (p + 1) v).1 = -1 → a' = (its pb kc9 kc10 tp 4 0 (p + 1) v).2.1 ∧ ∀ j, 0 ≤ j → j < 3 → f' j = (its pb kc9 kc10 tp 4 0 (p + 1) v).2.2 j)) := by
  have ht1 := ht.1
  refine CQ.of (own := 3) (n := 8) (ini := false) (rt := none) (cd := cd27) (by decide +kernel) rfl (by decide +kernel) rfl (Nat.le_of_ble_eq_true rfl) ?_
  refine RQ.seg 3 (pc' := 5) (L' := [some (.ref 14), some (.retAddr 1), some (.retAddr 9), some (.retAddr 10), some (.ref 23), none, none, none]) (st' := [.int (iI (sc 1401)), .ref 14]) (g1 := (HW sc ar tx oc rl ou tl, q)) rfl ?_
  refine RQ.to (L' := [some (.ref 14), some (.retAddr 1), some (.retAddr 9), some (.retAddr 10), some (.ref 23), none, none, none]) (st' := [.int (iI p), .ref 14]) rfl (by rw [show sc 1401 = p from ha]) ?_
  refine RQ.seg 2 (pc' := 7) (L' := [some (.ref 14), some (.retAddr 1), some (.retAddr 9), some (.retAddr 10), some (.ref 23), none, none, none]) (st' := [.int ((iI p) + (iI 1)), .ref 14]) (g1 := (HW sc ar tx oc rl ou tl, q)) rfl ?_
  refine RQ.to (L' := [some (.ref 14), some (.retAddr 1), some (.retAddr 9), some (.retAddr 10), some (.ref 23), none, none, none]) (st' := [.int (iI (p + 1)), .ref 14]) rfl (by simp only [iI_add, iI_sub, iI_mul, iI_neg]) ?_
  refine RQ.seg 5 (pc' := 16) (L' := [some (.ref 14), some (.retAddr 1), some (.retAddr 9), some (.retAddr 10), some (.ref 23), some (.int (iI 0)), some (.int (iI 0)), none]) (st' := []) (g1 := (HW (usc sc 1401 (p + 1)) ar tx oc rl ou tl, q)) rfl ?_
  refine RQ.hp (g1 := (HW (usc (usc sc 1401 (p + 1)) 1402 (-1)) ar tx oc rl ou tl, q)) (HW_e (by rw [show (-1 : Int) = (usc sc 1401 (p + 1)) 1402 from hw.symm]; exact (usc_id _ 1402).symm) rfl) ?_
  refine RQ.hp (g1 := (HW (usc (usc sc 1401 (p + 1)) 1402 (-1)) (usc ar 23 (ar 23)) tx oc rl ou tl, q)) (congrArg (fun a => (HW (usc (usc sc 1401 (p + 1)) 1402 (-1)) a tx oc rl ou tl, q)) (show ar = usc ar 23 (ar 23) by funext j; unfold usc; cases hb : Nat.beq j 23 <;> first | rfl | (rw [Nat.eq_of_beq_eq_true hb]; rfl))) ?_
  exact x_itb1_l ht hs hl hK1 hK9 hK10 4 0 0 (p + 1) (ar 23) v _ (by omega) (by omega) (by omega) rfl (by omega) hf (fun a' w' f' q1 q2 q3 q4 => ⟨rfl, a', w', f', rfl, q1, q2, q3, q4⟩)
theorem x_items_b2 {K : PK} {d : Nat} {sc : Nat → Int} {ar : Nat → Int → Int} {tx oc : Nat} {rl : Nat → Option Nat} {ou : Nat → Int64} {tl : List PO} {q : Nat × Nat} {tp : List Int} (ht : TpOK tp) (hs : sc 101 = (tp.length : Int)) (hl : LAt (fun v => v) (ar 2) tp) (hK1 : K 1 = some (3, zA kc1)) (hK9 : K 9 = some (3, zA kc9)) (hK10 : K 10 = some (3, zA kc10)) {p : Int} {v : Int → Int} (ha : sc 1401 = p) (hp : 0 ≤ p ∧ p < (tp.length : Int)) (hw : sc 1402 = -1) (hf : ∀ j, 0 ≤ j → j < 3 → ar 24 j = v j) : CQ K (d + 4) 27 [.ref 14, .retAddr 1, .retAddr 9, .retAddr 10, .ref 24] (HW sc ar tx oc rl ou tl, q) (fun r g' => r = none ∧ ∃ a' w' f', g' = (HW (usc (usc sc 1401 a') 1402 w') (usc ar 24 f') tx oc rl ou tl, q) ∧ (-1 ≤ w' ∧ w' ≤ 160) ∧ (0 ≤ a' ∧ a' ≤ (tp.length : Int)) ∧ w' = (its pb kc9 kc10 tp 4 0 (p + 1) v).1 ∧ ((its pb kc9 kc10 tp 4 0 (p + 1) v).1 = -1 → a' = (its pb kc9 kc10 tp 4 0 (p + 1) v).2.1 ∧ ∀ j, 0 ≤ j → j < 3 → f' j = (its pb kc9 kc10 tp 4 0 (p + 1) v).2.2 j)) := by
  have ht1 := ht.1
  refine CQ.of (own := 3) (n := 8) (ini := false) (rt := none) (cd := cd27) (by decide +kernel) rfl (by decide +kernel) rfl (Nat.le_of_ble_eq_true rfl) ?_
  refine RQ.seg 3 (pc' := 5) (L' := [some (.ref 14), some (.retAddr 1), some (.retAddr 9), some (.retAddr 10), some (.ref 24), none, none, none]) (st' := [.int (iI (sc 1401)), .ref 14]) (g1 := (HW sc ar tx oc rl ou tl, q)) rfl ?_
  refine RQ.to (L' := [some (.ref 14), some (.retAddr 1), some (.retAddr 9), some (.retAddr 10), some (.ref 24), none, none, none]) (st' := [.int (iI p), .ref 14]) rfl (by rw [show sc 1401 = p from ha]) ?_
  refine RQ.seg 2 (pc' := 7) (L' := [some (.ref 14), some (.retAddr 1), some (.retAddr 9), some (.retAddr 10), some (.ref 24), none, none, none]) (st' := [.int ((iI p) + (iI 1)), .ref 14]) (g1 := (HW sc ar tx oc rl ou tl, q)) rfl ?_
  refine RQ.to (L' := [some (.ref 14), some (.retAddr 1), some (.retAddr 9), some (.retAddr 10), some (.ref 24), none, none, none]) (st' := [.int (iI (p + 1)), .ref 14]) rfl (by simp only [iI_add, iI_sub, iI_mul, iI_neg]) ?_
  refine RQ.seg 5 (pc' := 16) (L' := [some (.ref 14), some (.retAddr 1), some (.retAddr 9), some (.retAddr 10), some (.ref 24), some (.int (iI 0)), some (.int (iI 0)), none]) (st' := []) (g1 := (HW (usc sc 1401 (p + 1)) ar tx oc rl ou tl, q)) rfl ?_
  refine RQ.hp (g1 := (HW (usc (usc sc 1401 (p + 1)) 1402 (-1)) ar tx oc rl ou tl, q)) (HW_e (by rw [show (-1 : Int) = (usc sc 1401 (p + 1)) 1402 from hw.symm]; exact (usc_id _ 1402).symm) rfl) ?_
  refine RQ.hp (g1 := (HW (usc (usc sc 1401 (p + 1)) 1402 (-1)) (usc ar 24 (ar 24)) tx oc rl ou tl, q)) (congrArg (fun a => (HW (usc (usc sc 1401 (p + 1)) 1402 (-1)) a tx oc rl ou tl, q)) (show ar = usc ar 24 (ar 24) by funext j; unfold usc; cases hb : Nat.beq j 24 <;> first | rfl | (rw [Nat.eq_of_beq_eq_true hb]; rfl))) ?_
  exact x_itb2_l ht hs hl hK1 hK9 hK10 4 0 0 (p + 1) (ar 24) v _ (by omega) (by omega) (by omega) rfl (by omega) hf (fun a' w' f' q1 q2 q3 q4 => ⟨rfl, a', w', f', rfl, q1, q2, q3, q4⟩)
theorem x_items_l {K : PK} {d : Nat} {sc : Nat → Int} {ar : Nat → Int → Int} {tx oc : Nat} {rl : Nat → Option Nat} {ou : Nat → Int64} {tl : List PO} {q : Nat × Nat} {tp : List Int} (ht : TpOK tp) (hs : sc 101 = (tp.length : Int)) (hl : LAt (fun v => v) (ar 2) tp) (hK2 : K 2 = some (4, zA kc2)) (hK11 : K 11 = some (4, zA kc11)) (hK12 : K 12 = some (4, zA kc12)) {p : Int} {v : Int → Int} (ha : sc 1401 = p) (hp : 0 ≤ p ∧ p < (tp.length : Int)) (hw : sc 1402 = -1) (hf : ∀ j, 0 ≤ j → j < 4 → ar 25 j = v j) : CQ K (d + 4) 27 [.ref 14, .retAddr 2, .retAddr 11, .retAddr 12, .ref 25] (HW sc ar tx oc rl ou tl, q) (fun r g' => r = none ∧ ∃ a' w' f', g' = (HW (usc (usc sc 1401 a') 1402 w') (usc ar 25 f') tx oc rl ou tl, q) ∧ (-1 ≤ w' ∧ w' ≤ 160) ∧ (0 ≤ a' ∧ a' ≤ (tp.length : Int)) ∧ w' = (its pl kc11 kc12 tp 5 0 (p + 1) v).1 ∧ ((its pl kc11 kc12 tp 5 0 (p + 1) v).1 = -1 → a' = (its pl kc11 kc12 tp 5 0 (p + 1) v).2.1 ∧ ∀ j, 0 ≤ j → j < 4 → f' j = (its pl kc11 kc12 tp 5 0 (p + 1) v).2.2 j)) := by
  have ht1 := ht.1
  refine CQ.of (own := 3) (n := 8) (ini := false) (rt := none) (cd := cd27) (by decide +kernel) rfl (by decide +kernel) rfl (Nat.le_of_ble_eq_true rfl) ?_
  refine RQ.seg 3 (pc' := 5) (L' := [some (.ref 14), some (.retAddr 2), some (.retAddr 11), some (.retAddr 12), some (.ref 25), none, none, none]) (st' := [.int (iI (sc 1401)), .ref 14]) (g1 := (HW sc ar tx oc rl ou tl, q)) rfl ?_
  refine RQ.to (L' := [some (.ref 14), some (.retAddr 2), some (.retAddr 11), some (.retAddr 12), some (.ref 25), none, none, none]) (st' := [.int (iI p), .ref 14]) rfl (by rw [show sc 1401 = p from ha]) ?_
  refine RQ.seg 2 (pc' := 7) (L' := [some (.ref 14), some (.retAddr 2), some (.retAddr 11), some (.retAddr 12), some (.ref 25), none, none, none]) (st' := [.int ((iI p) + (iI 1)), .ref 14]) (g1 := (HW sc ar tx oc rl ou tl, q)) rfl ?_
  refine RQ.to (L' := [some (.ref 14), some (.retAddr 2), some (.retAddr 11), some (.retAddr 12), some (.ref 25), none, none, none]) (st' := [.int (iI (p + 1)), .ref 14]) rfl (by simp only [iI_add, iI_sub, iI_mul, iI_neg]) ?_
  refine RQ.seg 5 (pc' := 16) (L' := [some (.ref 14), some (.retAddr 2), some (.retAddr 11), some (.retAddr 12), some (.ref 25), some (.int (iI 0)), some (.int (iI 0)), none]) (st' := []) (g1 := (HW (usc sc 1401 (p + 1)) ar tx oc rl ou tl, q)) rfl ?_
  refine RQ.hp (g1 := (HW (usc (usc sc 1401 (p + 1)) 1402 (-1)) ar tx oc rl ou tl, q)) (HW_e (by rw [show (-1 : Int) = (usc sc 1401 (p + 1)) 1402 from hw.symm]; exact (usc_id _ 1402).symm) rfl) ?_
  refine RQ.hp (g1 := (HW (usc (usc sc 1401 (p + 1)) 1402 (-1)) (usc ar 25 (ar 25)) tx oc rl ou tl, q)) (congrArg (fun a => (HW (usc (usc sc 1401 (p + 1)) 1402 (-1)) a tx oc rl ou tl, q)) (show ar = usc ar 25 (ar 25) by funext j; unfold usc; cases hb : Nat.beq j 25 <;> first | rfl | (rw [Nat.eq_of_beq_eq_true hb]; rfl))) ?_
  exact x_itl_l ht hs hl hK2 hK11 hK12 5 0 0 (p + 1) (ar 25) v _ (by omega) (by omega) (by omega) rfl (by omega) hf (fun a' w' f' q1 q2 q3 q4 => ⟨rfl, a', w', f', rfl, q1, q2, q3, q4⟩)
theorem x_fclause {K : PK} {d : Nat} {sc : Nat → Int} {ar : Nat → Int → Int} {tx oc : Nat} {rl : Nat → Option Nat} {ou : Nat → Int64} {tl : List PO} {q : Nat × Nat} {tp : List Int} (ht : TpOK tp) (hs : sc 101 = (tp.length : Int)) (hl : LAt (fun v => v) (ar 2) tp) (hK0 : K 0 = some (4, zA kc0)) (hK1 : K 1 = some (3, zA kc1)) (hK2 : K 2 = some (4, zA kc2)) (hK4 : K 4 = some (4, zA kc4)) (hK5 : K 5 = some (4, zA kc5)) (hK6 : K 6 = some (4, zA kc6)) (hK7 : K 7 = some (4, zA kc7)) (hK8 : K 8 = some (3, zA kc8)) (hK9 : K 9 = some (3, zA kc9)) (hK10 : K 10 = some (3, zA kc10)) (hK11 : K 11 = some (4, zA kc11)) (hK12 : K 12 = some (4, zA kc12)) {S : FS} (hS : FsOK tp S) (hX : FdX S sc ar) (h0 : sc 1402 = -1) : CQ K (d + 5) 26 [.ref 14] (HW sc ar tx oc rl ou tl, q) (fun r g' => r = none ∧ ∃ sc' ar', g' = (HW sc' ar' tx oc rl ou tl, q) ∧ Same scF sc sc' ∧ Same scA ar ar' ∧ sc' 1402 = fE (cls tp S) ∧ (fE (cls tp S) = -1 → FdX (cls tp S) sc' ar') ∧ (0 ≤ sc' 1401 ∧ sc' 1401 ≤ (tp.length : Int)) ∧ (-1 ≤ sc' 1402 ∧ sc' 1402 ≤ 160) ∧ (0 ≤ sc' 1503 ∧ sc' 1503 ≤ 4) ∧ (0 ≤ sc' 1504 ∧ sc' 1504 ≤ 3)) := by
  have ht1 := ht.1
  obtain ⟨y1, y2, y3, y4, y5, y6, y7⟩ := id hX
  have hS1 := hS.1
  have hS2 := hS.2.1
  have hS3 := hS.2.2.1
  have hS4 := hS.2.2.2.1
  have hsk := sk_r (tp := tp) hS.1.2
  have hlr := tch_r ht (sk tp (fA S))
  have hlk : 0 ≤ lk tp (fA S) ∧ lk tp (fA S) ≤ 255 := hlr
  refine CQ.of (own := 3) (n := 3) (ini := false) (rt := none) (cd := cd26) (by decide +kernel) rfl (by decide +kernel) rfl (Nat.le_of_ble_eq_true rfl) ?_
  refine RQ.seg 1 (pc' := 1) (L' := [some (.ref 14), none, none]) (st' := [.ref 14]) (g1 := (HW sc ar tx oc rl ou tl, q)) rfl ?_
  refine RQ.call rfl rfl (CallR.up (d := 1) (x_look14 (d := 0) (sc := sc) (ar := ar) (a := fA S) ht hs hl y1 hS.1) (by omega)) ?_
  refine RQ.seg 3 (pc' := 8) (L' := [some (.ref 14), some (.int (iI (lk tp (fA S)))), none]) (st' := [.int (iI 119), .int (iI (lk tp (fA S)))]) (g1 := (HW (usc sc 1401 (sk tp (fA S))) ar tx oc rl ou tl, q)) rfl ?_
  refine RQ.if2 (a := (lk tp (fA S))) (b := 119) rfl rfl rfl rfl (by omega) (by omega) (fun (h1 : lk tp (fA S) ≠ 119) => ?_) (fun (h1 : ¬ lk tp (fA S) ≠ 119) => ?_)
  · skip
    refine RQ.seg 2 (pc' := 82) (L' := [some (.ref 14), some (.int (iI (lk tp (fA S)))), none]) (st' := [.int (iI 98), .int (iI (lk tp (fA S)))]) (g1 := (HW (usc sc 1401 (sk tp (fA S))) ar tx oc rl ou tl, q)) rfl ?_
    refine RQ.if2 (a := (lk tp (fA S))) (b := 98) rfl rfl rfl rfl (by omega) (by omega) (fun (h2 : lk tp (fA S) ≠ 98) => ?_) (fun (h2 : ¬ lk tp (fA S) ≠ 98) => ?_)
    · skip
      refine RQ.seg 2 (pc' := 156) (L' := [some (.ref 14), some (.int (iI (lk tp (fA S)))), none]) (st' := [.int (iI 108), .int (iI (lk tp (fA S)))]) (g1 := (HW (usc sc 1401 (sk tp (fA S))) ar tx oc rl ou tl, q)) rfl ?_
      refine RQ.if2 (a := (lk tp (fA S))) (b := 108) rfl rfl rfl rfl (by omega) (by omega) (fun (h3 : lk tp (fA S) ≠ 108) => ?_) (fun (h3 : ¬ lk tp (fA S) ≠ 108) => ?_)
      · skip
        refine RQ.seg 3 (pc' := 199) (L' := [some (.ref 14), some (.int (iI (lk tp (fA S)))), none]) (st' := [.int (iI (sk tp (fA S))), .ref 14]) (g1 := (HW (usc sc 1401 (sk tp (fA S))) ar tx oc rl ou tl, q)) rfl ?_
        refine RQ.call rfl rfl (CallR.up (d := 1) (x_refuse14 (d := 0) (sc := usc sc 1401 (sk tp (fA S))) (ar := ar) (p := sk tp (fA S)) (by show -1 ≤ sc 1402 ∧ sc 1402 ≤ 200; omega)) (by omega)) ?_
        rw [show (if (usc sc 1401 (sk tp (fA S))) 1402 = -1 then sk tp (fA S) else (usc sc 1401 (sk tp (fA S))) 1402) = sk tp (fA S) from if_pos h0]
        refine RQ.ret rfl rfl ?_
        have eT : cls tp S = (sk tp (fA S), sk tp (fA S), fW S, fB S, fL S, gW S, gB S, gL S) := by unfold cls; rw [if_neg (by omega), if_neg (by omega), if_neg (by omega)]
        rw [eT]
        exact ⟨rfl, _, _, rfl, (by repeat (first | exact Same.rf | refine Same.us rfl ?_)), (by repeat (first | exact Same.rf | refine Same.us rfl ?_)), rfl, fun z => absurd (show sk tp (fA S) = -1 from z) (by omega), by show 0 ≤ sk tp (fA S) ∧ sk tp (fA S) ≤ _; omega, by show -1 ≤ sk tp (fA S) ∧ sk tp (fA S) ≤ 160; omega, by show 0 ≤ sc 1503 ∧ sc 1503 ≤ 4; omega, by show 0 ≤ sc 1504 ∧ sc 1504 ≤ 3; omega⟩
      · skip
        refine RQ.seg 2 (pc' := 163) (L' := [some (.ref 14), some (.int (iI (lk tp (fA S)))), none]) (st' := [.int (iI (sc 1404))]) (g1 := (HW (usc sc 1401 (sk tp (fA S))) ar tx oc rl ou tl, q)) rfl ?_
        refine RQ.to (L' := [some (.ref 14), some (.int (iI (lk tp (fA S)))), none]) (st' := [.int (iI (fL S))]) rfl (by rw [show sc 1404 = fL S from y2]) ?_
        refine RQ.if1 (a := (fL S)) rfl rfl rfl (by omega) (fun (h4 : fL S ≠ 0) => ?_) (fun (h4 : ¬ fL S ≠ 0) => ?_)
        · skip
          refine RQ.seg 3 (pc' := 199) (L' := [some (.ref 14), some (.int (iI (lk tp (fA S)))), none]) (st' := [.int (iI (sk tp (fA S))), .ref 14]) (g1 := (HW (usc sc 1401 (sk tp (fA S))) ar tx oc rl ou tl, q)) rfl ?_
          refine RQ.call rfl rfl (CallR.up (d := 1) (x_refuse14 (d := 0) (sc := usc sc 1401 (sk tp (fA S))) (ar := ar) (p := sk tp (fA S)) (by show -1 ≤ sc 1402 ∧ sc 1402 ≤ 200; omega)) (by omega)) ?_
          rw [show (if (usc sc 1401 (sk tp (fA S))) 1402 = -1 then sk tp (fA S) else (usc sc 1401 (sk tp (fA S))) 1402) = sk tp (fA S) from if_pos h0]
          refine RQ.ret rfl rfl ?_
          have eT : cls tp S = (sk tp (fA S), sk tp (fA S), fW S, fB S, fL S, gW S, gB S, gL S) := by unfold cls; rw [if_neg (by omega), if_neg (by omega), if_neg (by omega)]
          rw [eT]
          exact ⟨rfl, _, _, rfl, (by repeat (first | exact Same.rf | refine Same.us rfl ?_)), (by repeat (first | exact Same.rf | refine Same.us rfl ?_)), rfl, fun z => absurd (show sk tp (fA S) = -1 from z) (by omega), by show 0 ≤ sk tp (fA S) ∧ sk tp (fA S) ≤ _; omega, by show -1 ≤ sk tp (fA S) ∧ sk tp (fA S) ≤ 160; omega, by show 0 ≤ sc 1503 ∧ sc 1503 ≤ 4; omega, by show 0 ≤ sc 1504 ∧ sc 1504 ≤ 3; omega⟩
        · skip
          refine RQ.seg 10 (pc' := 188) (L' := [some (.ref 14), some (.int (iI (lk tp (fA S)))), none]) (st' := [.ref 25, .retAddr 12, .retAddr 11, .retAddr 2, .ref 14]) (g1 := (HW (usc (usc sc 1401 (sk tp (fA S))) 1404 1) ar tx oc rl ou tl, q)) rfl ?_
          have hkp := tch_pos (tp := tp) (p := sk tp (fA S)) (by show lk tp (fA S) ≠ 0; omega)
          refine RQ.callQ rfl rfl (x_items_l (sc := usc (usc sc 1401 (sk tp (fA S))) 1404 1) (ar := ar) (p := sk tp (fA S)) (v := kc4) ht hs hl hK2 hK11 hK12 rfl (by omega) h0 (fun j j0 j1 => (y7 j j0 j1).trans (congrFun (hS.2.2.2.2 (by omega)) j))) (fun rv g1 hc => ?_)
          obtain ⟨rfl, a1, w1, f1, rfl, q1, q2, q3, q4⟩ := hc
          refine RQ.hp (g1 := (HW (usc (usc (usc sc 1401 a1) 1402 w1) 1404 1) (usc ar 25 f1) tx oc rl ou tl, q)) (HW_e (by rw [usc_sw _ 1404 1401 _ _ rfl, usc_uu _ 1401 _ _, usc_sw _ 1404 1402 _ _ rfl]; try rfl) rfl) ?_
          refine RQ.seg 1 (pc' := 202) (L' := [some (.ref 14), some (.int (iI (lk tp (fA S)))), none]) (st' := []) (g1 := (HW (usc (usc (usc sc 1401 a1) 1402 w1) 1404 1) (usc ar 25 f1) tx oc rl ou tl, q)) rfl ?_
          refine RQ.ret rfl rfl ?_
          have eT : cls tp S = ((iL tp (sk tp (fA S) + 1)).1, (iL tp (sk tp (fA S) + 1)).2.1, fW S, fB S, 1, gW S, gB S, (iL tp (sk tp (fA S) + 1)).2.2) := by unfold cls; rw [if_neg (by omega), if_neg (by omega), if_pos (by omega)]
          rw [eT]
          exact ⟨rfl, _, _, rfl, (by repeat (first | exact Same.rf | refine Same.us rfl ?_)), (by repeat (first | exact Same.rf | refine Same.us rfl ?_)), q3, fun z9 => ⟨(q4 z9).1, rfl, y3, y4, y5, y6, (q4 z9).2⟩, q2, q1, by show 0 ≤ sc 1503 ∧ sc 1503 ≤ 4; omega, by show 0 ≤ sc 1504 ∧ sc 1504 ≤ 3; omega⟩
    · skip
      refine RQ.seg 3 (pc' := 92) (L' := [some (.ref 14), some (.int (iI (lk tp (fA S)))), none]) (st' := [.int (iI (sc 1504))]) (g1 := (HW (usc sc 1401 (sk tp (fA S))) ar tx oc rl ou tl, q)) rfl ?_
      refine RQ.to (L' := [some (.ref 14), some (.int (iI (lk tp (fA S)))), none]) (st' := [.int (iI (fB S))]) rfl (by rw [show sc 1504 = fB S from y4]) ?_
      refine RQ.seg 1 (pc' := 93) (L' := [some (.ref 14), some (.int (iI (lk tp (fA S)))), none]) (st' := [.int (iI 3), .int (iI (fB S))]) (g1 := (HW (usc sc 1401 (sk tp (fA S))) ar tx oc rl ou tl, q)) rfl ?_
      refine RQ.if2 (a := (fB S)) (b := 3) rfl rfl rfl rfl (by omega) (by omega) (fun (h5 : 3 ≤ fB S) => ?_) (fun (h5 : ¬ 3 ≤ fB S) => ?_)
      · skip
        refine RQ.seg 2 (pc' := 156) (L' := [some (.ref 14), some (.int (iI (lk tp (fA S)))), none]) (st' := [.int (iI 108), .int (iI (lk tp (fA S)))]) (g1 := (HW (usc sc 1401 (sk tp (fA S))) ar tx oc rl ou tl, q)) rfl ?_
        refine RQ.if2 (a := (lk tp (fA S))) (b := 108) rfl rfl rfl rfl (by omega) (by omega) (fun (h6 : lk tp (fA S) ≠ 108) => ?_) (fun (h6 : ¬ lk tp (fA S) ≠ 108) => ?_)
        · skip
          refine RQ.seg 3 (pc' := 199) (L' := [some (.ref 14), some (.int (iI (lk tp (fA S)))), none]) (st' := [.int (iI (sk tp (fA S))), .ref 14]) (g1 := (HW (usc sc 1401 (sk tp (fA S))) ar tx oc rl ou tl, q)) rfl ?_
          refine RQ.call rfl rfl (CallR.up (d := 1) (x_refuse14 (d := 0) (sc := usc sc 1401 (sk tp (fA S))) (ar := ar) (p := sk tp (fA S)) (by show -1 ≤ sc 1402 ∧ sc 1402 ≤ 200; omega)) (by omega)) ?_
          rw [show (if (usc sc 1401 (sk tp (fA S))) 1402 = -1 then sk tp (fA S) else (usc sc 1401 (sk tp (fA S))) 1402) = sk tp (fA S) from if_pos h0]
          refine RQ.ret rfl rfl ?_
          have eT : cls tp S = (sk tp (fA S), sk tp (fA S), fW S, fB S, fL S, gW S, gB S, gL S) := by unfold cls; rw [if_neg (by omega), if_neg (by omega), if_neg (by omega)]
          rw [eT]
          exact ⟨rfl, _, _, rfl, (by repeat (first | exact Same.rf | refine Same.us rfl ?_)), (by repeat (first | exact Same.rf | refine Same.us rfl ?_)), rfl, fun z => absurd (show sk tp (fA S) = -1 from z) (by omega), by show 0 ≤ sk tp (fA S) ∧ sk tp (fA S) ≤ _; omega, by show -1 ≤ sk tp (fA S) ∧ sk tp (fA S) ≤ 160; omega, by show 0 ≤ sc 1503 ∧ sc 1503 ≤ 4; omega, by show 0 ≤ sc 1504 ∧ sc 1504 ≤ 3; omega⟩
        · skip
          refine RQ.seg 2 (pc' := 163) (L' := [some (.ref 14), some (.int (iI (lk tp (fA S)))), none]) (st' := [.int (iI (sc 1404))]) (g1 := (HW (usc sc 1401 (sk tp (fA S))) ar tx oc rl ou tl, q)) rfl ?_
          refine RQ.to (L' := [some (.ref 14), some (.int (iI (lk tp (fA S)))), none]) (st' := [.int (iI (fL S))]) rfl (by rw [show sc 1404 = fL S from y2]) ?_
          refine RQ.if1 (a := (fL S)) rfl rfl rfl (by omega) (fun (h7 : fL S ≠ 0) => ?_) (fun (h7 : ¬ fL S ≠ 0) => ?_)
          · skip
            refine RQ.seg 3 (pc' := 199) (L' := [some (.ref 14), some (.int (iI (lk tp (fA S)))), none]) (st' := [.int (iI (sk tp (fA S))), .ref 14]) (g1 := (HW (usc sc 1401 (sk tp (fA S))) ar tx oc rl ou tl, q)) rfl ?_
            refine RQ.call rfl rfl (CallR.up (d := 1) (x_refuse14 (d := 0) (sc := usc sc 1401 (sk tp (fA S))) (ar := ar) (p := sk tp (fA S)) (by show -1 ≤ sc 1402 ∧ sc 1402 ≤ 200; omega)) (by omega)) ?_
            rw [show (if (usc sc 1401 (sk tp (fA S))) 1402 = -1 then sk tp (fA S) else (usc sc 1401 (sk tp (fA S))) 1402) = sk tp (fA S) from if_pos h0]
            refine RQ.ret rfl rfl ?_
            have eT : cls tp S = (sk tp (fA S), sk tp (fA S), fW S, fB S, fL S, gW S, gB S, gL S) := by unfold cls; rw [if_neg (by omega), if_neg (by omega), if_neg (by omega)]
            rw [eT]
            exact ⟨rfl, _, _, rfl, (by repeat (first | exact Same.rf | refine Same.us rfl ?_)), (by repeat (first | exact Same.rf | refine Same.us rfl ?_)), rfl, fun z => absurd (show sk tp (fA S) = -1 from z) (by omega), by show 0 ≤ sk tp (fA S) ∧ sk tp (fA S) ≤ _; omega, by show -1 ≤ sk tp (fA S) ∧ sk tp (fA S) ≤ 160; omega, by show 0 ≤ sc 1503 ∧ sc 1503 ≤ 4; omega, by show 0 ≤ sc 1504 ∧ sc 1504 ≤ 3; omega⟩
          · skip
            refine RQ.seg 10 (pc' := 188) (L' := [some (.ref 14), some (.int (iI (lk tp (fA S)))), none]) (st' := [.ref 25, .retAddr 12, .retAddr 11, .retAddr 2, .ref 14]) (g1 := (HW (usc (usc sc 1401 (sk tp (fA S))) 1404 1) ar tx oc rl ou tl, q)) rfl ?_
            have hkp := tch_pos (tp := tp) (p := sk tp (fA S)) (by show lk tp (fA S) ≠ 0; omega)
            refine RQ.callQ rfl rfl (x_items_l (sc := usc (usc sc 1401 (sk tp (fA S))) 1404 1) (ar := ar) (p := sk tp (fA S)) (v := kc4) ht hs hl hK2 hK11 hK12 rfl (by omega) h0 (fun j j0 j1 => (y7 j j0 j1).trans (congrFun (hS.2.2.2.2 (by omega)) j))) (fun rv g1 hc => ?_)
            obtain ⟨rfl, a1, w1, f1, rfl, q1, q2, q3, q4⟩ := hc
            refine RQ.hp (g1 := (HW (usc (usc (usc sc 1401 a1) 1402 w1) 1404 1) (usc ar 25 f1) tx oc rl ou tl, q)) (HW_e (by rw [usc_sw _ 1404 1401 _ _ rfl, usc_uu _ 1401 _ _, usc_sw _ 1404 1402 _ _ rfl]; try rfl) rfl) ?_
            refine RQ.seg 1 (pc' := 202) (L' := [some (.ref 14), some (.int (iI (lk tp (fA S)))), none]) (st' := []) (g1 := (HW (usc (usc (usc sc 1401 a1) 1402 w1) 1404 1) (usc ar 25 f1) tx oc rl ou tl, q)) rfl ?_
            refine RQ.ret rfl rfl ?_
            have eT : cls tp S = ((iL tp (sk tp (fA S) + 1)).1, (iL tp (sk tp (fA S) + 1)).2.1, fW S, fB S, 1, gW S, gB S, (iL tp (sk tp (fA S) + 1)).2.2) := by unfold cls; rw [if_neg (by omega), if_neg (by omega), if_pos (by omega)]
            rw [eT]
            exact ⟨rfl, _, _, rfl, (by repeat (first | exact Same.rf | refine Same.us rfl ?_)), (by repeat (first | exact Same.rf | refine Same.us rfl ?_)), q3, fun z9 => ⟨(q4 z9).1, rfl, y3, y4, y5, y6, (q4 z9).2⟩, q2, q1, by show 0 ≤ sc 1503 ∧ sc 1503 ≤ 4; omega, by show 0 ≤ sc 1504 ∧ sc 1504 ≤ 3; omega⟩
      · skip
        refine RQ.seg 6 (pc' := 110) (L' := [some (.ref 14), some (.int (iI (lk tp (fA S)))), none]) (st' := [.int (iI (sc 1504)), .ref 21]) (g1 := (HW (usc sc 1401 (sk tp (fA S))) ar tx oc rl ou tl, q)) rfl ?_
        refine RQ.to (L' := [some (.ref 14), some (.int (iI (lk tp (fA S)))), none]) (st' := [.int (iI (fB S)), .ref 21]) rfl (by rw [show sc 1504 = fB S from y4]) ?_
        rcases (show fB S = 0 ∨ fB S = 1 ∨ fB S = 2 by omega) with hz | hz | hz
        · skip
          refine RQ.aald (z := fB S) rfl rfl rfl (by omega) (by decide) ?_
          refine RQ.to (L' := [some (.ref 14), some (.int (iI (lk tp (fA S)))), none]) (st' := [.ref 22]) rfl (by rw [hz]; rfl) ?_
          refine RQ.seg 5 (pc' := 120) (L' := [some (.ref 14), some (.int (iI (lk tp (fA S)))), some (.ref 22)]) (st' := [.int (iI (sc 1504)), .ref 15]) (g1 := (HW (usc sc 1401 (sk tp (fA S))) ar tx oc rl ou tl, q)) rfl ?_
          refine RQ.to (L' := [some (.ref 14), some (.int (iI (lk tp (fA S)))), some (.ref 22)]) (st' := [.int (iI (fB S)), .ref 15]) rfl (by rw [show sc 1504 = fB S from y4]) ?_
          refine RQ.seg 2 (pc' := 122) (L' := [some (.ref 14), some (.int (iI (lk tp (fA S)))), some (.ref 22)]) (st' := [.int ((iI (fB S)) + (iI 1)), .ref 15]) (g1 := (HW (usc sc 1401 (sk tp (fA S))) ar tx oc rl ou tl, q)) rfl ?_
          refine RQ.to (L' := [some (.ref 14), some (.int (iI (lk tp (fA S)))), some (.ref 22)]) (st' := [.int (iI (fB S + 1)), .ref 15]) rfl (by simp only [iI_add, iI_sub, iI_mul, iI_neg]) ?_
          refine RQ.seg 6 (pc' := 132) (L' := [some (.ref 14), some (.int (iI (lk tp (fA S)))), some (.ref 22)]) (st' := [.ref 22, .int (iI 0), .ref 22, .int (iI 0), .retAddr 8]) (g1 := (HW (usc (usc sc 1401 (sk tp (fA S))) 1504 (fB S + 1)) ar tx oc rl ou tl, q)) rfl ?_
          refine RQ.alen rfl rfl ?_
          refine RQ.acpk (n := 3) (f := kc8) (f1 := (ar 22)) (g1 := (HW (usc (usc sc 1401 (sk tp (fA S))) 1504 (fB S + 1)) (usc ar 22 (cpz kc8 (ar 22) 3)) tx oc rl ou tl, q)) rfl (by decide +kernel) rfl hK8 rfl (by decide) (by decide) (by decide) (HWa_22 rfl) ?_
          refine RQ.seg 5 (pc' := 147) (L' := [some (.ref 14), some (.int (iI (lk tp (fA S)))), some (.ref 22)]) (st' := [.ref 22, .retAddr 10, .retAddr 9, .retAddr 1, .ref 14]) (g1 := (HW (usc (usc sc 1401 (sk tp (fA S))) 1504 (fB S + 1)) (usc ar 22 (cpz kc8 (ar 22) 3)) tx oc rl ou tl, q)) rfl ?_
          have hkp := tch_pos (tp := tp) (p := sk tp (fA S)) (by show lk tp (fA S) ≠ 0; omega)
          refine RQ.callQ rfl rfl (x_items_b0 (sc := usc (usc sc 1401 (sk tp (fA S))) 1504 (fB S + 1)) (ar := usc ar 22 (cpz kc8 (ar 22) 3)) (p := sk tp (fA S)) (v := kc8) ht hs hl hK1 hK9 hK10 rfl (by omega) h0 (fun j j0 j1 => cpz_l j1)) (fun rv g1 hc => ?_)
          obtain ⟨rfl, a1, w1, f1, rfl, q1, q2, q3, q4⟩ := hc
          refine RQ.hp (g1 := (HW (usc (usc (usc sc 1401 a1) 1402 w1) 1504 (fB S + 1)) (usc ar 22 f1) tx oc rl ou tl, q)) (HW_e (by rw [usc_sw _ 1504 1401 _ _ rfl, usc_uu _ 1401 _ _, usc_sw _ 1504 1402 _ _ rfl]; try rfl) (by rw [usc_uu _ 22 _ _]; try rfl)) ?_
          refine RQ.seg 1 (pc' := 202) (L' := [some (.ref 14), some (.int (iI (lk tp (fA S)))), some (.ref 22)]) (st' := []) (g1 := (HW (usc (usc (usc sc 1401 a1) 1402 w1) 1504 (fB S + 1)) (usc ar 22 f1) tx oc rl ou tl, q)) rfl ?_
          refine RQ.ret rfl rfl ?_
          have eT : cls tp S = ((iB tp (sk tp (fA S) + 1)).1, (iB tp (sk tp (fA S) + 1)).2.1, fW S, fB S + 1, fL S, gW S, usf (gB S) (fB S) (iB tp (sk tp (fA S) + 1)).2.2, gL S) := by unfold cls; rw [if_neg (by omega), if_pos (by omega)]
          rw [eT]
          exact ⟨rfl, _, _, rfl, (by repeat (first | exact Same.rf | refine Same.us rfl ?_)), (by repeat (first | exact Same.rf | refine Same.us rfl ?_)), q3, fun z9 => ⟨(q4 z9).1, y2, y3, rfl, y5, (fun jj j0 j1 => ⟨(fun _ => by show f1 jj = usf (gB S) (fB S) _ 0 jj; rw [hz, usf_s]; exact (q4 z9).2 jj j0 j1), (fun zz => absurd (show 1 < fB S + 1 from zz) (by omega)), (fun zz => absurd (show 2 < fB S + 1 from zz) (by omega))⟩), y7⟩, q2, q1, by show 0 ≤ sc 1503 ∧ sc 1503 ≤ 4; omega, by show 0 ≤ fB S + 1 ∧ fB S + 1 ≤ 3; omega⟩
        · skip
          refine RQ.aald (z := fB S) rfl rfl rfl (by omega) (by decide) ?_
          refine RQ.to (L' := [some (.ref 14), some (.int (iI (lk tp (fA S)))), none]) (st' := [.ref 23]) rfl (by rw [hz]; rfl) ?_
          refine RQ.seg 5 (pc' := 120) (L' := [some (.ref 14), some (.int (iI (lk tp (fA S)))), some (.ref 23)]) (st' := [.int (iI (sc 1504)), .ref 15]) (g1 := (HW (usc sc 1401 (sk tp (fA S))) ar tx oc rl ou tl, q)) rfl ?_
          refine RQ.to (L' := [some (.ref 14), some (.int (iI (lk tp (fA S)))), some (.ref 23)]) (st' := [.int (iI (fB S)), .ref 15]) rfl (by rw [show sc 1504 = fB S from y4]) ?_
          refine RQ.seg 2 (pc' := 122) (L' := [some (.ref 14), some (.int (iI (lk tp (fA S)))), some (.ref 23)]) (st' := [.int ((iI (fB S)) + (iI 1)), .ref 15]) (g1 := (HW (usc sc 1401 (sk tp (fA S))) ar tx oc rl ou tl, q)) rfl ?_
          refine RQ.to (L' := [some (.ref 14), some (.int (iI (lk tp (fA S)))), some (.ref 23)]) (st' := [.int (iI (fB S + 1)), .ref 15]) rfl (by simp only [iI_add, iI_sub, iI_mul, iI_neg]) ?_
          refine RQ.seg 6 (pc' := 132) (L' := [some (.ref 14), some (.int (iI (lk tp (fA S)))), some (.ref 23)]) (st' := [.ref 23, .int (iI 0), .ref 23, .int (iI 0), .retAddr 8]) (g1 := (HW (usc (usc sc 1401 (sk tp (fA S))) 1504 (fB S + 1)) ar tx oc rl ou tl, q)) rfl ?_
          refine RQ.alen rfl rfl ?_
          refine RQ.acpk (n := 3) (f := kc8) (f1 := (ar 23)) (g1 := (HW (usc (usc sc 1401 (sk tp (fA S))) 1504 (fB S + 1)) (usc ar 23 (cpz kc8 (ar 23) 3)) tx oc rl ou tl, q)) rfl (by decide +kernel) rfl hK8 rfl (by decide) (by decide) (by decide) (HWa_23 rfl) ?_
          refine RQ.seg 5 (pc' := 147) (L' := [some (.ref 14), some (.int (iI (lk tp (fA S)))), some (.ref 23)]) (st' := [.ref 23, .retAddr 10, .retAddr 9, .retAddr 1, .ref 14]) (g1 := (HW (usc (usc sc 1401 (sk tp (fA S))) 1504 (fB S + 1)) (usc ar 23 (cpz kc8 (ar 23) 3)) tx oc rl ou tl, q)) rfl ?_
          have hkp := tch_pos (tp := tp) (p := sk tp (fA S)) (by show lk tp (fA S) ≠ 0; omega)
          refine RQ.callQ rfl rfl (x_items_b1 (sc := usc (usc sc 1401 (sk tp (fA S))) 1504 (fB S + 1)) (ar := usc ar 23 (cpz kc8 (ar 23) 3)) (p := sk tp (fA S)) (v := kc8) ht hs hl hK1 hK9 hK10 rfl (by omega) h0 (fun j j0 j1 => cpz_l j1)) (fun rv g1 hc => ?_)
          obtain ⟨rfl, a1, w1, f1, rfl, q1, q2, q3, q4⟩ := hc
          refine RQ.hp (g1 := (HW (usc (usc (usc sc 1401 a1) 1402 w1) 1504 (fB S + 1)) (usc ar 23 f1) tx oc rl ou tl, q)) (HW_e (by rw [usc_sw _ 1504 1401 _ _ rfl, usc_uu _ 1401 _ _, usc_sw _ 1504 1402 _ _ rfl]; try rfl) (by rw [usc_uu _ 23 _ _]; try rfl)) ?_
          refine RQ.seg 1 (pc' := 202) (L' := [some (.ref 14), some (.int (iI (lk tp (fA S)))), some (.ref 23)]) (st' := []) (g1 := (HW (usc (usc (usc sc 1401 a1) 1402 w1) 1504 (fB S + 1)) (usc ar 23 f1) tx oc rl ou tl, q)) rfl ?_
          refine RQ.ret rfl rfl ?_
          have eT : cls tp S = ((iB tp (sk tp (fA S) + 1)).1, (iB tp (sk tp (fA S) + 1)).2.1, fW S, fB S + 1, fL S, gW S, usf (gB S) (fB S) (iB tp (sk tp (fA S) + 1)).2.2, gL S) := by unfold cls; rw [if_neg (by omega), if_pos (by omega)]
          rw [eT]
          exact ⟨rfl, _, _, rfl, (by repeat (first | exact Same.rf | refine Same.us rfl ?_)), (by repeat (first | exact Same.rf | refine Same.us rfl ?_)), q3, fun z9 => ⟨(q4 z9).1, y2, y3, rfl, y5, (fun jj j0 j1 => ⟨(fun _ => by show ar 22 jj = usf (gB S) (fB S) _ 0 jj; rw [usf_n (by omega)]; exact (y6 jj j0 j1).1 (by omega)), (fun _ => by show f1 jj = usf (gB S) (fB S) _ 1 jj; rw [hz, usf_s]; exact (q4 z9).2 jj j0 j1), (fun zz => absurd (show 2 < fB S + 1 from zz) (by omega))⟩), y7⟩, q2, q1, by show 0 ≤ sc 1503 ∧ sc 1503 ≤ 4; omega, by show 0 ≤ fB S + 1 ∧ fB S + 1 ≤ 3; omega⟩
        · skip
          refine RQ.aald (z := fB S) rfl rfl rfl (by omega) (by decide) ?_
          refine RQ.to (L' := [some (.ref 14), some (.int (iI (lk tp (fA S)))), none]) (st' := [.ref 24]) rfl (by rw [hz]; rfl) ?_
          refine RQ.seg 5 (pc' := 120) (L' := [some (.ref 14), some (.int (iI (lk tp (fA S)))), some (.ref 24)]) (st' := [.int (iI (sc 1504)), .ref 15]) (g1 := (HW (usc sc 1401 (sk tp (fA S))) ar tx oc rl ou tl, q)) rfl ?_
          refine RQ.to (L' := [some (.ref 14), some (.int (iI (lk tp (fA S)))), some (.ref 24)]) (st' := [.int (iI (fB S)), .ref 15]) rfl (by rw [show sc 1504 = fB S from y4]) ?_
          refine RQ.seg 2 (pc' := 122) (L' := [some (.ref 14), some (.int (iI (lk tp (fA S)))), some (.ref 24)]) (st' := [.int ((iI (fB S)) + (iI 1)), .ref 15]) (g1 := (HW (usc sc 1401 (sk tp (fA S))) ar tx oc rl ou tl, q)) rfl ?_
          refine RQ.to (L' := [some (.ref 14), some (.int (iI (lk tp (fA S)))), some (.ref 24)]) (st' := [.int (iI (fB S + 1)), .ref 15]) rfl (by simp only [iI_add, iI_sub, iI_mul, iI_neg]) ?_
          refine RQ.seg 6 (pc' := 132) (L' := [some (.ref 14), some (.int (iI (lk tp (fA S)))), some (.ref 24)]) (st' := [.ref 24, .int (iI 0), .ref 24, .int (iI 0), .retAddr 8]) (g1 := (HW (usc (usc sc 1401 (sk tp (fA S))) 1504 (fB S + 1)) ar tx oc rl ou tl, q)) rfl ?_
          refine RQ.alen rfl rfl ?_
          refine RQ.acpk (n := 3) (f := kc8) (f1 := (ar 24)) (g1 := (HW (usc (usc sc 1401 (sk tp (fA S))) 1504 (fB S + 1)) (usc ar 24 (cpz kc8 (ar 24) 3)) tx oc rl ou tl, q)) rfl (by decide +kernel) rfl hK8 rfl (by decide) (by decide) (by decide) (HWa_24 rfl) ?_
          refine RQ.seg 5 (pc' := 147) (L' := [some (.ref 14), some (.int (iI (lk tp (fA S)))), some (.ref 24)]) (st' := [.ref 24, .retAddr 10, .retAddr 9, .retAddr 1, .ref 14]) (g1 := (HW (usc (usc sc 1401 (sk tp (fA S))) 1504 (fB S + 1)) (usc ar 24 (cpz kc8 (ar 24) 3)) tx oc rl ou tl, q)) rfl ?_
          have hkp := tch_pos (tp := tp) (p := sk tp (fA S)) (by show lk tp (fA S) ≠ 0; omega)
          refine RQ.callQ rfl rfl (x_items_b2 (sc := usc (usc sc 1401 (sk tp (fA S))) 1504 (fB S + 1)) (ar := usc ar 24 (cpz kc8 (ar 24) 3)) (p := sk tp (fA S)) (v := kc8) ht hs hl hK1 hK9 hK10 rfl (by omega) h0 (fun j j0 j1 => cpz_l j1)) (fun rv g1 hc => ?_)
          obtain ⟨rfl, a1, w1, f1, rfl, q1, q2, q3, q4⟩ := hc
          refine RQ.hp (g1 := (HW (usc (usc (usc sc 1401 a1) 1402 w1) 1504 (fB S + 1)) (usc ar 24 f1) tx oc rl ou tl, q)) (HW_e (by rw [usc_sw _ 1504 1401 _ _ rfl, usc_uu _ 1401 _ _, usc_sw _ 1504 1402 _ _ rfl]; try rfl) (by rw [usc_uu _ 24 _ _]; try rfl)) ?_
          refine RQ.seg 1 (pc' := 202) (L' := [some (.ref 14), some (.int (iI (lk tp (fA S)))), some (.ref 24)]) (st' := []) (g1 := (HW (usc (usc (usc sc 1401 a1) 1402 w1) 1504 (fB S + 1)) (usc ar 24 f1) tx oc rl ou tl, q)) rfl ?_
          refine RQ.ret rfl rfl ?_
          have eT : cls tp S = ((iB tp (sk tp (fA S) + 1)).1, (iB tp (sk tp (fA S) + 1)).2.1, fW S, fB S + 1, fL S, gW S, usf (gB S) (fB S) (iB tp (sk tp (fA S) + 1)).2.2, gL S) := by unfold cls; rw [if_neg (by omega), if_pos (by omega)]
          rw [eT]
          exact ⟨rfl, _, _, rfl, (by repeat (first | exact Same.rf | refine Same.us rfl ?_)), (by repeat (first | exact Same.rf | refine Same.us rfl ?_)), q3, fun z9 => ⟨(q4 z9).1, y2, y3, rfl, y5, (fun jj j0 j1 => ⟨(fun _ => by show ar 22 jj = usf (gB S) (fB S) _ 0 jj; rw [usf_n (by omega)]; exact (y6 jj j0 j1).1 (by omega)), (fun _ => by show ar 23 jj = usf (gB S) (fB S) _ 1 jj; rw [usf_n (by omega)]; exact (y6 jj j0 j1).2.1 (by omega)), (fun _ => by show f1 jj = usf (gB S) (fB S) _ 2 jj; rw [hz, usf_s]; exact (q4 z9).2 jj j0 j1)⟩), y7⟩, q2, q1, by show 0 ≤ sc 1503 ∧ sc 1503 ≤ 4; omega, by show 0 ≤ fB S + 1 ∧ fB S + 1 ≤ 3; omega⟩
  · skip
    refine RQ.seg 3 (pc' := 18) (L' := [some (.ref 14), some (.int (iI (lk tp (fA S)))), none]) (st' := [.int (iI (sc 1503))]) (g1 := (HW (usc sc 1401 (sk tp (fA S))) ar tx oc rl ou tl, q)) rfl ?_
    refine RQ.to (L' := [some (.ref 14), some (.int (iI (lk tp (fA S)))), none]) (st' := [.int (iI (fW S))]) rfl (by rw [show sc 1503 = fW S from y3]) ?_
    refine RQ.seg 1 (pc' := 19) (L' := [some (.ref 14), some (.int (iI (lk tp (fA S)))), none]) (st' := [.int (iI 4), .int (iI (fW S))]) (g1 := (HW (usc sc 1401 (sk tp (fA S))) ar tx oc rl ou tl, q)) rfl ?_
    refine RQ.if2 (a := (fW S)) (b := 4) rfl rfl rfl rfl (by omega) (by omega) (fun (h8 : 4 ≤ fW S) => ?_) (fun (h8 : ¬ 4 ≤ fW S) => ?_)
    · skip
      refine RQ.seg 2 (pc' := 82) (L' := [some (.ref 14), some (.int (iI (lk tp (fA S)))), none]) (st' := [.int (iI 98), .int (iI (lk tp (fA S)))]) (g1 := (HW (usc sc 1401 (sk tp (fA S))) ar tx oc rl ou tl, q)) rfl ?_
      refine RQ.if2 (a := (lk tp (fA S))) (b := 98) rfl rfl rfl rfl (by omega) (by omega) (fun (h9 : lk tp (fA S) ≠ 98) => ?_) (fun (h9 : ¬ lk tp (fA S) ≠ 98) => ?_)
      · skip
        refine RQ.seg 2 (pc' := 156) (L' := [some (.ref 14), some (.int (iI (lk tp (fA S)))), none]) (st' := [.int (iI 108), .int (iI (lk tp (fA S)))]) (g1 := (HW (usc sc 1401 (sk tp (fA S))) ar tx oc rl ou tl, q)) rfl ?_
        refine RQ.if2 (a := (lk tp (fA S))) (b := 108) rfl rfl rfl rfl (by omega) (by omega) (fun (h10 : lk tp (fA S) ≠ 108) => ?_) (fun (h10 : ¬ lk tp (fA S) ≠ 108) => ?_)
        · skip
          refine RQ.seg 3 (pc' := 199) (L' := [some (.ref 14), some (.int (iI (lk tp (fA S)))), none]) (st' := [.int (iI (sk tp (fA S))), .ref 14]) (g1 := (HW (usc sc 1401 (sk tp (fA S))) ar tx oc rl ou tl, q)) rfl ?_
          refine RQ.call rfl rfl (CallR.up (d := 1) (x_refuse14 (d := 0) (sc := usc sc 1401 (sk tp (fA S))) (ar := ar) (p := sk tp (fA S)) (by show -1 ≤ sc 1402 ∧ sc 1402 ≤ 200; omega)) (by omega)) ?_
          rw [show (if (usc sc 1401 (sk tp (fA S))) 1402 = -1 then sk tp (fA S) else (usc sc 1401 (sk tp (fA S))) 1402) = sk tp (fA S) from if_pos h0]
          refine RQ.ret rfl rfl ?_
          have eT : cls tp S = (sk tp (fA S), sk tp (fA S), fW S, fB S, fL S, gW S, gB S, gL S) := by unfold cls; rw [if_neg (by omega), if_neg (by omega), if_neg (by omega)]
          rw [eT]
          exact ⟨rfl, _, _, rfl, (by repeat (first | exact Same.rf | refine Same.us rfl ?_)), (by repeat (first | exact Same.rf | refine Same.us rfl ?_)), rfl, fun z => absurd (show sk tp (fA S) = -1 from z) (by omega), by show 0 ≤ sk tp (fA S) ∧ sk tp (fA S) ≤ _; omega, by show -1 ≤ sk tp (fA S) ∧ sk tp (fA S) ≤ 160; omega, by show 0 ≤ sc 1503 ∧ sc 1503 ≤ 4; omega, by show 0 ≤ sc 1504 ∧ sc 1504 ≤ 3; omega⟩
        · skip
          refine RQ.seg 2 (pc' := 163) (L' := [some (.ref 14), some (.int (iI (lk tp (fA S)))), none]) (st' := [.int (iI (sc 1404))]) (g1 := (HW (usc sc 1401 (sk tp (fA S))) ar tx oc rl ou tl, q)) rfl ?_
          refine RQ.to (L' := [some (.ref 14), some (.int (iI (lk tp (fA S)))), none]) (st' := [.int (iI (fL S))]) rfl (by rw [show sc 1404 = fL S from y2]) ?_
          refine RQ.if1 (a := (fL S)) rfl rfl rfl (by omega) (fun (h11 : fL S ≠ 0) => ?_) (fun (h11 : ¬ fL S ≠ 0) => ?_)
          · skip
            refine RQ.seg 3 (pc' := 199) (L' := [some (.ref 14), some (.int (iI (lk tp (fA S)))), none]) (st' := [.int (iI (sk tp (fA S))), .ref 14]) (g1 := (HW (usc sc 1401 (sk tp (fA S))) ar tx oc rl ou tl, q)) rfl ?_
            refine RQ.call rfl rfl (CallR.up (d := 1) (x_refuse14 (d := 0) (sc := usc sc 1401 (sk tp (fA S))) (ar := ar) (p := sk tp (fA S)) (by show -1 ≤ sc 1402 ∧ sc 1402 ≤ 200; omega)) (by omega)) ?_
            rw [show (if (usc sc 1401 (sk tp (fA S))) 1402 = -1 then sk tp (fA S) else (usc sc 1401 (sk tp (fA S))) 1402) = sk tp (fA S) from if_pos h0]
            refine RQ.ret rfl rfl ?_
            have eT : cls tp S = (sk tp (fA S), sk tp (fA S), fW S, fB S, fL S, gW S, gB S, gL S) := by unfold cls; rw [if_neg (by omega), if_neg (by omega), if_neg (by omega)]
            rw [eT]
            exact ⟨rfl, _, _, rfl, (by repeat (first | exact Same.rf | refine Same.us rfl ?_)), (by repeat (first | exact Same.rf | refine Same.us rfl ?_)), rfl, fun z => absurd (show sk tp (fA S) = -1 from z) (by omega), by show 0 ≤ sk tp (fA S) ∧ sk tp (fA S) ≤ _; omega, by show -1 ≤ sk tp (fA S) ∧ sk tp (fA S) ≤ 160; omega, by show 0 ≤ sc 1503 ∧ sc 1503 ≤ 4; omega, by show 0 ≤ sc 1504 ∧ sc 1504 ≤ 3; omega⟩
          · skip
            refine RQ.seg 10 (pc' := 188) (L' := [some (.ref 14), some (.int (iI (lk tp (fA S)))), none]) (st' := [.ref 25, .retAddr 12, .retAddr 11, .retAddr 2, .ref 14]) (g1 := (HW (usc (usc sc 1401 (sk tp (fA S))) 1404 1) ar tx oc rl ou tl, q)) rfl ?_
            have hkp := tch_pos (tp := tp) (p := sk tp (fA S)) (by show lk tp (fA S) ≠ 0; omega)
            refine RQ.callQ rfl rfl (x_items_l (sc := usc (usc sc 1401 (sk tp (fA S))) 1404 1) (ar := ar) (p := sk tp (fA S)) (v := kc4) ht hs hl hK2 hK11 hK12 rfl (by omega) h0 (fun j j0 j1 => (y7 j j0 j1).trans (congrFun (hS.2.2.2.2 (by omega)) j))) (fun rv g1 hc => ?_)
            obtain ⟨rfl, a1, w1, f1, rfl, q1, q2, q3, q4⟩ := hc
            refine RQ.hp (g1 := (HW (usc (usc (usc sc 1401 a1) 1402 w1) 1404 1) (usc ar 25 f1) tx oc rl ou tl, q)) (HW_e (by rw [usc_sw _ 1404 1401 _ _ rfl, usc_uu _ 1401 _ _, usc_sw _ 1404 1402 _ _ rfl]; try rfl) rfl) ?_
            refine RQ.seg 1 (pc' := 202) (L' := [some (.ref 14), some (.int (iI (lk tp (fA S)))), none]) (st' := []) (g1 := (HW (usc (usc (usc sc 1401 a1) 1402 w1) 1404 1) (usc ar 25 f1) tx oc rl ou tl, q)) rfl ?_
            refine RQ.ret rfl rfl ?_
            have eT : cls tp S = ((iL tp (sk tp (fA S) + 1)).1, (iL tp (sk tp (fA S) + 1)).2.1, fW S, fB S, 1, gW S, gB S, (iL tp (sk tp (fA S) + 1)).2.2) := by unfold cls; rw [if_neg (by omega), if_neg (by omega), if_pos (by omega)]
            rw [eT]
            exact ⟨rfl, _, _, rfl, (by repeat (first | exact Same.rf | refine Same.us rfl ?_)), (by repeat (first | exact Same.rf | refine Same.us rfl ?_)), q3, fun z9 => ⟨(q4 z9).1, rfl, y3, y4, y5, y6, (q4 z9).2⟩, q2, q1, by show 0 ≤ sc 1503 ∧ sc 1503 ≤ 4; omega, by show 0 ≤ sc 1504 ∧ sc 1504 ≤ 3; omega⟩
      · skip
        refine RQ.seg 3 (pc' := 92) (L' := [some (.ref 14), some (.int (iI (lk tp (fA S)))), none]) (st' := [.int (iI (sc 1504))]) (g1 := (HW (usc sc 1401 (sk tp (fA S))) ar tx oc rl ou tl, q)) rfl ?_
        refine RQ.to (L' := [some (.ref 14), some (.int (iI (lk tp (fA S)))), none]) (st' := [.int (iI (fB S))]) rfl (by rw [show sc 1504 = fB S from y4]) ?_
        refine RQ.seg 1 (pc' := 93) (L' := [some (.ref 14), some (.int (iI (lk tp (fA S)))), none]) (st' := [.int (iI 3), .int (iI (fB S))]) (g1 := (HW (usc sc 1401 (sk tp (fA S))) ar tx oc rl ou tl, q)) rfl ?_
        refine RQ.if2 (a := (fB S)) (b := 3) rfl rfl rfl rfl (by omega) (by omega) (fun (h12 : 3 ≤ fB S) => ?_) (fun (h12 : ¬ 3 ≤ fB S) => ?_)
        · skip
          refine RQ.seg 2 (pc' := 156) (L' := [some (.ref 14), some (.int (iI (lk tp (fA S)))), none]) (st' := [.int (iI 108), .int (iI (lk tp (fA S)))]) (g1 := (HW (usc sc 1401 (sk tp (fA S))) ar tx oc rl ou tl, q)) rfl ?_
          refine RQ.if2 (a := (lk tp (fA S))) (b := 108) rfl rfl rfl rfl (by omega) (by omega) (fun (h13 : lk tp (fA S) ≠ 108) => ?_) (fun (h13 : ¬ lk tp (fA S) ≠ 108) => ?_)
          · skip
            refine RQ.seg 3 (pc' := 199) (L' := [some (.ref 14), some (.int (iI (lk tp (fA S)))), none]) (st' := [.int (iI (sk tp (fA S))), .ref 14]) (g1 := (HW (usc sc 1401 (sk tp (fA S))) ar tx oc rl ou tl, q)) rfl ?_
            refine RQ.call rfl rfl (CallR.up (d := 1) (x_refuse14 (d := 0) (sc := usc sc 1401 (sk tp (fA S))) (ar := ar) (p := sk tp (fA S)) (by show -1 ≤ sc 1402 ∧ sc 1402 ≤ 200; omega)) (by omega)) ?_
            rw [show (if (usc sc 1401 (sk tp (fA S))) 1402 = -1 then sk tp (fA S) else (usc sc 1401 (sk tp (fA S))) 1402) = sk tp (fA S) from if_pos h0]
            refine RQ.ret rfl rfl ?_
            have eT : cls tp S = (sk tp (fA S), sk tp (fA S), fW S, fB S, fL S, gW S, gB S, gL S) := by unfold cls; rw [if_neg (by omega), if_neg (by omega), if_neg (by omega)]
            rw [eT]
            exact ⟨rfl, _, _, rfl, (by repeat (first | exact Same.rf | refine Same.us rfl ?_)), (by repeat (first | exact Same.rf | refine Same.us rfl ?_)), rfl, fun z => absurd (show sk tp (fA S) = -1 from z) (by omega), by show 0 ≤ sk tp (fA S) ∧ sk tp (fA S) ≤ _; omega, by show -1 ≤ sk tp (fA S) ∧ sk tp (fA S) ≤ 160; omega, by show 0 ≤ sc 1503 ∧ sc 1503 ≤ 4; omega, by show 0 ≤ sc 1504 ∧ sc 1504 ≤ 3; omega⟩
          · skip
            refine RQ.seg 2 (pc' := 163) (L' := [some (.ref 14), some (.int (iI (lk tp (fA S)))), none]) (st' := [.int (iI (sc 1404))]) (g1 := (HW (usc sc 1401 (sk tp (fA S))) ar tx oc rl ou tl, q)) rfl ?_
            refine RQ.to (L' := [some (.ref 14), some (.int (iI (lk tp (fA S)))), none]) (st' := [.int (iI (fL S))]) rfl (by rw [show sc 1404 = fL S from y2]) ?_
            refine RQ.if1 (a := (fL S)) rfl rfl rfl (by omega) (fun (h14 : fL S ≠ 0) => ?_) (fun (h14 : ¬ fL S ≠ 0) => ?_)
            · skip
              refine RQ.seg 3 (pc' := 199) (L' := [some (.ref 14), some (.int (iI (lk tp (fA S)))), none]) (st' := [.int (iI (sk tp (fA S))), .ref 14]) (g1 := (HW (usc sc 1401 (sk tp (fA S))) ar tx oc rl ou tl, q)) rfl ?_
              refine RQ.call rfl rfl (CallR.up (d := 1) (x_refuse14 (d := 0) (sc := usc sc 1401 (sk tp (fA S))) (ar := ar) (p := sk tp (fA S)) (by show -1 ≤ sc 1402 ∧ sc 1402 ≤ 200; omega)) (by omega)) ?_
              rw [show (if (usc sc 1401 (sk tp (fA S))) 1402 = -1 then sk tp (fA S) else (usc sc 1401 (sk tp (fA S))) 1402) = sk tp (fA S) from if_pos h0]
              refine RQ.ret rfl rfl ?_
              have eT : cls tp S = (sk tp (fA S), sk tp (fA S), fW S, fB S, fL S, gW S, gB S, gL S) := by unfold cls; rw [if_neg (by omega), if_neg (by omega), if_neg (by omega)]
              rw [eT]
              exact ⟨rfl, _, _, rfl, (by repeat (first | exact Same.rf | refine Same.us rfl ?_)), (by repeat (first | exact Same.rf | refine Same.us rfl ?_)), rfl, fun z => absurd (show sk tp (fA S) = -1 from z) (by omega), by show 0 ≤ sk tp (fA S) ∧ sk tp (fA S) ≤ _; omega, by show -1 ≤ sk tp (fA S) ∧ sk tp (fA S) ≤ 160; omega, by show 0 ≤ sc 1503 ∧ sc 1503 ≤ 4; omega, by show 0 ≤ sc 1504 ∧ sc 1504 ≤ 3; omega⟩
            · skip
              refine RQ.seg 10 (pc' := 188) (L' := [some (.ref 14), some (.int (iI (lk tp (fA S)))), none]) (st' := [.ref 25, .retAddr 12, .retAddr 11, .retAddr 2, .ref 14]) (g1 := (HW (usc (usc sc 1401 (sk tp (fA S))) 1404 1) ar tx oc rl ou tl, q)) rfl ?_
              have hkp := tch_pos (tp := tp) (p := sk tp (fA S)) (by show lk tp (fA S) ≠ 0; omega)
              refine RQ.callQ rfl rfl (x_items_l (sc := usc (usc sc 1401 (sk tp (fA S))) 1404 1) (ar := ar) (p := sk tp (fA S)) (v := kc4) ht hs hl hK2 hK11 hK12 rfl (by omega) h0 (fun j j0 j1 => (y7 j j0 j1).trans (congrFun (hS.2.2.2.2 (by omega)) j))) (fun rv g1 hc => ?_)
              obtain ⟨rfl, a1, w1, f1, rfl, q1, q2, q3, q4⟩ := hc
              refine RQ.hp (g1 := (HW (usc (usc (usc sc 1401 a1) 1402 w1) 1404 1) (usc ar 25 f1) tx oc rl ou tl, q)) (HW_e (by rw [usc_sw _ 1404 1401 _ _ rfl, usc_uu _ 1401 _ _, usc_sw _ 1404 1402 _ _ rfl]; try rfl) rfl) ?_
              refine RQ.seg 1 (pc' := 202) (L' := [some (.ref 14), some (.int (iI (lk tp (fA S)))), none]) (st' := []) (g1 := (HW (usc (usc (usc sc 1401 a1) 1402 w1) 1404 1) (usc ar 25 f1) tx oc rl ou tl, q)) rfl ?_
              refine RQ.ret rfl rfl ?_
              have eT : cls tp S = ((iL tp (sk tp (fA S) + 1)).1, (iL tp (sk tp (fA S) + 1)).2.1, fW S, fB S, 1, gW S, gB S, (iL tp (sk tp (fA S) + 1)).2.2) := by unfold cls; rw [if_neg (by omega), if_neg (by omega), if_pos (by omega)]
              rw [eT]
              exact ⟨rfl, _, _, rfl, (by repeat (first | exact Same.rf | refine Same.us rfl ?_)), (by repeat (first | exact Same.rf | refine Same.us rfl ?_)), q3, fun z9 => ⟨(q4 z9).1, rfl, y3, y4, y5, y6, (q4 z9).2⟩, q2, q1, by show 0 ≤ sc 1503 ∧ sc 1503 ≤ 4; omega, by show 0 ≤ sc 1504 ∧ sc 1504 ≤ 3; omega⟩
        · skip
          refine RQ.seg 6 (pc' := 110) (L' := [some (.ref 14), some (.int (iI (lk tp (fA S)))), none]) (st' := [.int (iI (sc 1504)), .ref 21]) (g1 := (HW (usc sc 1401 (sk tp (fA S))) ar tx oc rl ou tl, q)) rfl ?_
          refine RQ.to (L' := [some (.ref 14), some (.int (iI (lk tp (fA S)))), none]) (st' := [.int (iI (fB S)), .ref 21]) rfl (by rw [show sc 1504 = fB S from y4]) ?_
          rcases (show fB S = 0 ∨ fB S = 1 ∨ fB S = 2 by omega) with hz | hz | hz
          · skip
            refine RQ.aald (z := fB S) rfl rfl rfl (by omega) (by decide) ?_
            refine RQ.to (L' := [some (.ref 14), some (.int (iI (lk tp (fA S)))), none]) (st' := [.ref 22]) rfl (by rw [hz]; rfl) ?_
            refine RQ.seg 5 (pc' := 120) (L' := [some (.ref 14), some (.int (iI (lk tp (fA S)))), some (.ref 22)]) (st' := [.int (iI (sc 1504)), .ref 15]) (g1 := (HW (usc sc 1401 (sk tp (fA S))) ar tx oc rl ou tl, q)) rfl ?_
            refine RQ.to (L' := [some (.ref 14), some (.int (iI (lk tp (fA S)))), some (.ref 22)]) (st' := [.int (iI (fB S)), .ref 15]) rfl (by rw [show sc 1504 = fB S from y4]) ?_
            refine RQ.seg 2 (pc' := 122) (L' := [some (.ref 14), some (.int (iI (lk tp (fA S)))), some (.ref 22)]) (st' := [.int ((iI (fB S)) + (iI 1)), .ref 15]) (g1 := (HW (usc sc 1401 (sk tp (fA S))) ar tx oc rl ou tl, q)) rfl ?_
            refine RQ.to (L' := [some (.ref 14), some (.int (iI (lk tp (fA S)))), some (.ref 22)]) (st' := [.int (iI (fB S + 1)), .ref 15]) rfl (by simp only [iI_add, iI_sub, iI_mul, iI_neg]) ?_
            refine RQ.seg 6 (pc' := 132) (L' := [some (.ref 14), some (.int (iI (lk tp (fA S)))), some (.ref 22)]) (st' := [.ref 22, .int (iI 0), .ref 22, .int (iI 0), .retAddr 8]) (g1 := (HW (usc (usc sc 1401 (sk tp (fA S))) 1504 (fB S + 1)) ar tx oc rl ou tl, q)) rfl ?_
            refine RQ.alen rfl rfl ?_
            refine RQ.acpk (n := 3) (f := kc8) (f1 := (ar 22)) (g1 := (HW (usc (usc sc 1401 (sk tp (fA S))) 1504 (fB S + 1)) (usc ar 22 (cpz kc8 (ar 22) 3)) tx oc rl ou tl, q)) rfl (by decide +kernel) rfl hK8 rfl (by decide) (by decide) (by decide) (HWa_22 rfl) ?_
            refine RQ.seg 5 (pc' := 147) (L' := [some (.ref 14), some (.int (iI (lk tp (fA S)))), some (.ref 22)]) (st' := [.ref 22, .retAddr 10, .retAddr 9, .retAddr 1, .ref 14]) (g1 := (HW (usc (usc sc 1401 (sk tp (fA S))) 1504 (fB S + 1)) (usc ar 22 (cpz kc8 (ar 22) 3)) tx oc rl ou tl, q)) rfl ?_
            have hkp := tch_pos (tp := tp) (p := sk tp (fA S)) (by show lk tp (fA S) ≠ 0; omega)
            refine RQ.callQ rfl rfl (x_items_b0 (sc := usc (usc sc 1401 (sk tp (fA S))) 1504 (fB S + 1)) (ar := usc ar 22 (cpz kc8 (ar 22) 3)) (p := sk tp (fA S)) (v := kc8) ht hs hl hK1 hK9 hK10 rfl (by omega) h0 (fun j j0 j1 => cpz_l j1)) (fun rv g1 hc => ?_)
            obtain ⟨rfl, a1, w1, f1, rfl, q1, q2, q3, q4⟩ := hc
            refine RQ.hp (g1 := (HW (usc (usc (usc sc 1401 a1) 1402 w1) 1504 (fB S + 1)) (usc ar 22 f1) tx oc rl ou tl, q)) (HW_e (by rw [usc_sw _ 1504 1401 _ _ rfl, usc_uu _ 1401 _ _, usc_sw _ 1504 1402 _ _ rfl]; try rfl) (by rw [usc_uu _ 22 _ _]; try rfl)) ?_
            refine RQ.seg 1 (pc' := 202) (L' := [some (.ref 14), some (.int (iI (lk tp (fA S)))), some (.ref 22)]) (st' := []) (g1 := (HW (usc (usc (usc sc 1401 a1) 1402 w1) 1504 (fB S + 1)) (usc ar 22 f1) tx oc rl ou tl, q)) rfl ?_
            refine RQ.ret rfl rfl ?_
            have eT : cls tp S = ((iB tp (sk tp (fA S) + 1)).1, (iB tp (sk tp (fA S) + 1)).2.1, fW S, fB S + 1, fL S, gW S, usf (gB S) (fB S) (iB tp (sk tp (fA S) + 1)).2.2, gL S) := by unfold cls; rw [if_neg (by omega), if_pos (by omega)]
            rw [eT]
            exact ⟨rfl, _, _, rfl, (by repeat (first | exact Same.rf | refine Same.us rfl ?_)), (by repeat (first | exact Same.rf | refine Same.us rfl ?_)), q3, fun z9 => ⟨(q4 z9).1, y2, y3, rfl, y5, (fun jj j0 j1 => ⟨(fun _ => by show f1 jj = usf (gB S) (fB S) _ 0 jj; rw [hz, usf_s]; exact (q4 z9).2 jj j0 j1), (fun zz => absurd (show 1 < fB S + 1 from zz) (by omega)), (fun zz => absurd (show 2 < fB S + 1 from zz) (by omega))⟩), y7⟩, q2, q1, by show 0 ≤ sc 1503 ∧ sc 1503 ≤ 4; omega, by show 0 ≤ fB S + 1 ∧ fB S + 1 ≤ 3; omega⟩
          · skip
            refine RQ.aald (z := fB S) rfl rfl rfl (by omega) (by decide) ?_
            refine RQ.to (L' := [some (.ref 14), some (.int (iI (lk tp (fA S)))), none]) (st' := [.ref 23]) rfl (by rw [hz]; rfl) ?_
            refine RQ.seg 5 (pc' := 120) (L' := [some (.ref 14), some (.int (iI (lk tp (fA S)))), some (.ref 23)]) (st' := [.int (iI (sc 1504)), .ref 15]) (g1 := (HW (usc sc 1401 (sk tp (fA S))) ar tx oc rl ou tl, q)) rfl ?_
            refine RQ.to (L' := [some (.ref 14), some (.int (iI (lk tp (fA S)))), some (.ref 23)]) (st' := [.int (iI (fB S)), .ref 15]) rfl (by rw [show sc 1504 = fB S from y4]) ?_
            refine RQ.seg 2 (pc' := 122) (L' := [some (.ref 14), some (.int (iI (lk tp (fA S)))), some (.ref 23)]) (st' := [.int ((iI (fB S)) + (iI 1)), .ref 15]) (g1 := (HW (usc sc 1401 (sk tp (fA S))) ar tx oc rl ou tl, q)) rfl ?_
            refine RQ.to (L' := [some (.ref 14), some (.int (iI (lk tp (fA S)))), some (.ref 23)]) (st' := [.int (iI (fB S + 1)), .ref 15]) rfl (by simp only [iI_add, iI_sub, iI_mul, iI_neg]) ?_
            refine RQ.seg 6 (pc' := 132) (L' := [some (.ref 14), some (.int (iI (lk tp (fA S)))), some (.ref 23)]) (st' := [.ref 23, .int (iI 0), .ref 23, .int (iI 0), .retAddr 8]) (g1 := (HW (usc (usc sc 1401 (sk tp (fA S))) 1504 (fB S + 1)) ar tx oc rl ou tl, q)) rfl ?_
            refine RQ.alen rfl rfl ?_
            refine RQ.acpk (n := 3) (f := kc8) (f1 := (ar 23)) (g1 := (HW (usc (usc sc 1401 (sk tp (fA S))) 1504 (fB S + 1)) (usc ar 23 (cpz kc8 (ar 23) 3)) tx oc rl ou tl, q)) rfl (by decide +kernel) rfl hK8 rfl (by decide) (by decide) (by decide) (HWa_23 rfl) ?_
            refine RQ.seg 5 (pc' := 147) (L' := [some (.ref 14), some (.int (iI (lk tp (fA S)))), some (.ref 23)]) (st' := [.ref 23, .retAddr 10, .retAddr 9, .retAddr 1, .ref 14]) (g1 := (HW (usc (usc sc 1401 (sk tp (fA S))) 1504 (fB S + 1)) (usc ar 23 (cpz kc8 (ar 23) 3)) tx oc rl ou tl, q)) rfl ?_
            have hkp := tch_pos (tp := tp) (p := sk tp (fA S)) (by show lk tp (fA S) ≠ 0; omega)
            refine RQ.callQ rfl rfl (x_items_b1 (sc := usc (usc sc 1401 (sk tp (fA S))) 1504 (fB S + 1)) (ar := usc ar 23 (cpz kc8 (ar 23) 3)) (p := sk tp (fA S)) (v := kc8) ht hs hl hK1 hK9 hK10 rfl (by omega) h0 (fun j j0 j1 => cpz_l j1)) (fun rv g1 hc => ?_)
            obtain ⟨rfl, a1, w1, f1, rfl, q1, q2, q3, q4⟩ := hc
            refine RQ.hp (g1 := (HW (usc (usc (usc sc 1401 a1) 1402 w1) 1504 (fB S + 1)) (usc ar 23 f1) tx oc rl ou tl, q)) (HW_e (by rw [usc_sw _ 1504 1401 _ _ rfl, usc_uu _ 1401 _ _, usc_sw _ 1504 1402 _ _ rfl]; try rfl) (by rw [usc_uu _ 23 _ _]; try rfl)) ?_
            refine RQ.seg 1 (pc' := 202) (L' := [some (.ref 14), some (.int (iI (lk tp (fA S)))), some (.ref 23)]) (st' := []) (g1 := (HW (usc (usc (usc sc 1401 a1) 1402 w1) 1504 (fB S + 1)) (usc ar 23 f1) tx oc rl ou tl, q)) rfl ?_
            refine RQ.ret rfl rfl ?_
            have eT : cls tp S = ((iB tp (sk tp (fA S) + 1)).1, (iB tp (sk tp (fA S) + 1)).2.1, fW S, fB S + 1, fL S, gW S, usf (gB S) (fB S) (iB tp (sk tp (fA S) + 1)).2.2, gL S) := by unfold cls; rw [if_neg (by omega), if_pos (by omega)]
            rw [eT]
            exact ⟨rfl, _, _, rfl, (by repeat (first | exact Same.rf | refine Same.us rfl ?_)), (by repeat (first | exact Same.rf | refine Same.us rfl ?_)), q3, fun z9 => ⟨(q4 z9).1, y2, y3, rfl, y5, (fun jj j0 j1 => ⟨(fun _ => by show ar 22 jj = usf (gB S) (fB S) _ 0 jj; rw [usf_n (by omega)]; exact (y6 jj j0 j1).1 (by omega)), (fun _ => by show f1 jj = usf (gB S) (fB S) _ 1 jj; rw [hz, usf_s]; exact (q4 z9).2 jj j0 j1), (fun zz => absurd (show 2 < fB S + 1 from zz) (by omega))⟩), y7⟩, q2, q1, by show 0 ≤ sc 1503 ∧ sc 1503 ≤ 4; omega, by show 0 ≤ fB S + 1 ∧ fB S + 1 ≤ 3; omega⟩
          · skip
            refine RQ.aald (z := fB S) rfl rfl rfl (by omega) (by decide) ?_
            refine RQ.to (L' := [some (.ref 14), some (.int (iI (lk tp (fA S)))), none]) (st' := [.ref 24]) rfl (by rw [hz]; rfl) ?_
            refine RQ.seg 5 (pc' := 120) (L' := [some (.ref 14), some (.int (iI (lk tp (fA S)))), some (.ref 24)]) (st' := [.int (iI (sc 1504)), .ref 15]) (g1 := (HW (usc sc 1401 (sk tp (fA S))) ar tx oc rl ou tl, q)) rfl ?_
            refine RQ.to (L' := [some (.ref 14), some (.int (iI (lk tp (fA S)))), some (.ref 24)]) (st' := [.int (iI (fB S)), .ref 15]) rfl (by rw [show sc 1504 = fB S from y4]) ?_
            refine RQ.seg 2 (pc' := 122) (L' := [some (.ref 14), some (.int (iI (lk tp (fA S)))), some (.ref 24)]) (st' := [.int ((iI (fB S)) + (iI 1)), .ref 15]) (g1 := (HW (usc sc 1401 (sk tp (fA S))) ar tx oc rl ou tl, q)) rfl ?_
            refine RQ.to (L' := [some (.ref 14), some (.int (iI (lk tp (fA S)))), some (.ref 24)]) (st' := [.int (iI (fB S + 1)), .ref 15]) rfl (by simp only [iI_add, iI_sub, iI_mul, iI_neg]) ?_
            refine RQ.seg 6 (pc' := 132) (L' := [some (.ref 14), some (.int (iI (lk tp (fA S)))), some (.ref 24)]) (st' := [.ref 24, .int (iI 0), .ref 24, .int (iI 0), .retAddr 8]) (g1 := (HW (usc (usc sc 1401 (sk tp (fA S))) 1504 (fB S + 1)) ar tx oc rl ou tl, q)) rfl ?_
            refine RQ.alen rfl rfl ?_
            refine RQ.acpk (n := 3) (f := kc8) (f1 := (ar 24)) (g1 := (HW (usc (usc sc 1401 (sk tp (fA S))) 1504 (fB S + 1)) (usc ar 24 (cpz kc8 (ar 24) 3)) tx oc rl ou tl, q)) rfl (by decide +kernel) rfl hK8 rfl (by decide) (by decide) (by decide) (HWa_24 rfl) ?_
            refine RQ.seg 5 (pc' := 147) (L' := [some (.ref 14), some (.int (iI (lk tp (fA S)))), some (.ref 24)]) (st' := [.ref 24, .retAddr 10, .retAddr 9, .retAddr 1, .ref 14]) (g1 := (HW (usc (usc sc 1401 (sk tp (fA S))) 1504 (fB S + 1)) (usc ar 24 (cpz kc8 (ar 24) 3)) tx oc rl ou tl, q)) rfl ?_
            have hkp := tch_pos (tp := tp) (p := sk tp (fA S)) (by show lk tp (fA S) ≠ 0; omega)
            refine RQ.callQ rfl rfl (x_items_b2 (sc := usc (usc sc 1401 (sk tp (fA S))) 1504 (fB S + 1)) (ar := usc ar 24 (cpz kc8 (ar 24) 3)) (p := sk tp (fA S)) (v := kc8) ht hs hl hK1 hK9 hK10 rfl (by omega) h0 (fun j j0 j1 => cpz_l j1)) (fun rv g1 hc => ?_)
            obtain ⟨rfl, a1, w1, f1, rfl, q1, q2, q3, q4⟩ := hc
            refine RQ.hp (g1 := (HW (usc (usc (usc sc 1401 a1) 1402 w1) 1504 (fB S + 1)) (usc ar 24 f1) tx oc rl ou tl, q)) (HW_e (by rw [usc_sw _ 1504 1401 _ _ rfl, usc_uu _ 1401 _ _, usc_sw _ 1504 1402 _ _ rfl]; try rfl) (by rw [usc_uu _ 24 _ _]; try rfl)) ?_
            refine RQ.seg 1 (pc' := 202) (L' := [some (.ref 14), some (.int (iI (lk tp (fA S)))), some (.ref 24)]) (st' := []) (g1 := (HW (usc (usc (usc sc 1401 a1) 1402 w1) 1504 (fB S + 1)) (usc ar 24 f1) tx oc rl ou tl, q)) rfl ?_
            refine RQ.ret rfl rfl ?_
            have eT : cls tp S = ((iB tp (sk tp (fA S) + 1)).1, (iB tp (sk tp (fA S) + 1)).2.1, fW S, fB S + 1, fL S, gW S, usf (gB S) (fB S) (iB tp (sk tp (fA S) + 1)).2.2, gL S) := by unfold cls; rw [if_neg (by omega), if_pos (by omega)]
            rw [eT]
            exact ⟨rfl, _, _, rfl, (by repeat (first | exact Same.rf | refine Same.us rfl ?_)), (by repeat (first | exact Same.rf | refine Same.us rfl ?_)), q3, fun z9 => ⟨(q4 z9).1, y2, y3, rfl, y5, (fun jj j0 j1 => ⟨(fun _ => by show ar 22 jj = usf (gB S) (fB S) _ 0 jj; rw [usf_n (by omega)]; exact (y6 jj j0 j1).1 (by omega)), (fun _ => by show ar 23 jj = usf (gB S) (fB S) _ 1 jj; rw [usf_n (by omega)]; exact (y6 jj j0 j1).2.1 (by omega)), (fun _ => by show f1 jj = usf (gB S) (fB S) _ 2 jj; rw [hz, usf_s]; exact (q4 z9).2 jj j0 j1)⟩), y7⟩, q2, q1, by show 0 ≤ sc 1503 ∧ sc 1503 ≤ 4; omega, by show 0 ≤ fB S + 1 ∧ fB S + 1 ≤ 3; omega⟩
    · skip
      refine RQ.seg 6 (pc' := 36) (L' := [some (.ref 14), some (.int (iI (lk tp (fA S)))), none]) (st' := [.int (iI (sc 1503)), .ref 16]) (g1 := (HW (usc sc 1401 (sk tp (fA S))) ar tx oc rl ou tl, q)) rfl ?_
      refine RQ.to (L' := [some (.ref 14), some (.int (iI (lk tp (fA S)))), none]) (st' := [.int (iI (fW S)), .ref 16]) rfl (by rw [show sc 1503 = fW S from y3]) ?_
      rcases (show fW S = 0 ∨ fW S = 1 ∨ fW S = 2 ∨ fW S = 3 by omega) with hz | hz | hz | hz
      · skip
        refine RQ.aald (z := fW S) rfl rfl rfl (by omega) (by decide) ?_
        refine RQ.to (L' := [some (.ref 14), some (.int (iI (lk tp (fA S)))), none]) (st' := [.ref 17]) rfl (by rw [hz]; rfl) ?_
        refine RQ.seg 5 (pc' := 46) (L' := [some (.ref 14), some (.int (iI (lk tp (fA S)))), some (.ref 17)]) (st' := [.int (iI (sc 1503)), .ref 15]) (g1 := (HW (usc sc 1401 (sk tp (fA S))) ar tx oc rl ou tl, q)) rfl ?_
        refine RQ.to (L' := [some (.ref 14), some (.int (iI (lk tp (fA S)))), some (.ref 17)]) (st' := [.int (iI (fW S)), .ref 15]) rfl (by rw [show sc 1503 = fW S from y3]) ?_
        refine RQ.seg 2 (pc' := 48) (L' := [some (.ref 14), some (.int (iI (lk tp (fA S)))), some (.ref 17)]) (st' := [.int ((iI (fW S)) + (iI 1)), .ref 15]) (g1 := (HW (usc sc 1401 (sk tp (fA S))) ar tx oc rl ou tl, q)) rfl ?_
        refine RQ.to (L' := [some (.ref 14), some (.int (iI (lk tp (fA S)))), some (.ref 17)]) (st' := [.int (iI (fW S + 1)), .ref 15]) rfl (by simp only [iI_add, iI_sub, iI_mul, iI_neg]) ?_
        refine RQ.seg 6 (pc' := 58) (L' := [some (.ref 14), some (.int (iI (lk tp (fA S)))), some (.ref 17)]) (st' := [.ref 17, .int (iI 0), .ref 17, .int (iI 0), .retAddr 5]) (g1 := (HW (usc (usc sc 1401 (sk tp (fA S))) 1503 (fW S + 1)) ar tx oc rl ou tl, q)) rfl ?_
        refine RQ.alen rfl rfl ?_
        refine RQ.acpk (n := 4) (f := kc5) (f1 := (ar 17)) (g1 := (HW (usc (usc sc 1401 (sk tp (fA S))) 1503 (fW S + 1)) (usc ar 17 (cpz kc5 (ar 17) 4)) tx oc rl ou tl, q)) rfl (by decide +kernel) rfl hK5 rfl (by decide) (by decide) (by decide) (HWa_17 rfl) ?_
        refine RQ.seg 5 (pc' := 73) (L' := [some (.ref 14), some (.int (iI (lk tp (fA S)))), some (.ref 17)]) (st' := [.ref 17, .retAddr 7, .retAddr 6, .retAddr 0, .ref 14]) (g1 := (HW (usc (usc sc 1401 (sk tp (fA S))) 1503 (fW S + 1)) (usc ar 17 (cpz kc5 (ar 17) 4)) tx oc rl ou tl, q)) rfl ?_
        have hkp := tch_pos (tp := tp) (p := sk tp (fA S)) (by show lk tp (fA S) ≠ 0; omega)
        refine RQ.callQ rfl rfl (x_items_w0 (sc := usc (usc sc 1401 (sk tp (fA S))) 1503 (fW S + 1)) (ar := usc ar 17 (cpz kc5 (ar 17) 4)) (p := sk tp (fA S)) (v := kc5) ht hs hl hK0 hK6 hK7 rfl (by omega) h0 (fun j j0 j1 => cpz_l j1)) (fun rv g1 hc => ?_)
        obtain ⟨rfl, a1, w1, f1, rfl, q1, q2, q3, q4⟩ := hc
        refine RQ.hp (g1 := (HW (usc (usc (usc sc 1401 a1) 1402 w1) 1503 (fW S + 1)) (usc ar 17 f1) tx oc rl ou tl, q)) (HW_e (by rw [usc_sw _ 1503 1401 _ _ rfl, usc_uu _ 1401 _ _, usc_sw _ 1503 1402 _ _ rfl]; try rfl) (by rw [usc_uu _ 17 _ _]; try rfl)) ?_
        refine RQ.seg 1 (pc' := 202) (L' := [some (.ref 14), some (.int (iI (lk tp (fA S)))), some (.ref 17)]) (st' := []) (g1 := (HW (usc (usc (usc sc 1401 a1) 1402 w1) 1503 (fW S + 1)) (usc ar 17 f1) tx oc rl ou tl, q)) rfl ?_
        refine RQ.ret rfl rfl ?_
        have eT : cls tp S = ((iW tp (sk tp (fA S) + 1)).1, (iW tp (sk tp (fA S) + 1)).2.1, fW S + 1, fB S, fL S, usf (gW S) (fW S) (iW tp (sk tp (fA S) + 1)).2.2, gB S, gL S) := by unfold cls; rw [if_pos (by omega)]
        rw [eT]
        exact ⟨rfl, _, _, rfl, (by repeat (first | exact Same.rf | refine Same.us rfl ?_)), (by repeat (first | exact Same.rf | refine Same.us rfl ?_)), q3, fun z9 => ⟨(q4 z9).1, y2, rfl, y4, (fun jj j0 j1 => ⟨(fun _ => by show f1 jj = usf (gW S) (fW S) _ 0 jj; rw [hz, usf_s]; exact (q4 z9).2 jj j0 j1), (fun zz => absurd (show 1 < fW S + 1 from zz) (by omega)), (fun zz => absurd (show 2 < fW S + 1 from zz) (by omega)), (fun zz => absurd (show 3 < fW S + 1 from zz) (by omega))⟩), y6, y7⟩, q2, q1, by show 0 ≤ fW S + 1 ∧ fW S + 1 ≤ 4; omega, by show 0 ≤ sc 1504 ∧ sc 1504 ≤ 3; omega⟩
      · skip
        refine RQ.aald (z := fW S) rfl rfl rfl (by omega) (by decide) ?_
        refine RQ.to (L' := [some (.ref 14), some (.int (iI (lk tp (fA S)))), none]) (st' := [.ref 18]) rfl (by rw [hz]; rfl) ?_
        refine RQ.seg 5 (pc' := 46) (L' := [some (.ref 14), some (.int (iI (lk tp (fA S)))), some (.ref 18)]) (st' := [.int (iI (sc 1503)), .ref 15]) (g1 := (HW (usc sc 1401 (sk tp (fA S))) ar tx oc rl ou tl, q)) rfl ?_
        refine RQ.to (L' := [some (.ref 14), some (.int (iI (lk tp (fA S)))), some (.ref 18)]) (st' := [.int (iI (fW S)), .ref 15]) rfl (by rw [show sc 1503 = fW S from y3]) ?_
        refine RQ.seg 2 (pc' := 48) (L' := [some (.ref 14), some (.int (iI (lk tp (fA S)))), some (.ref 18)]) (st' := [.int ((iI (fW S)) + (iI 1)), .ref 15]) (g1 := (HW (usc sc 1401 (sk tp (fA S))) ar tx oc rl ou tl, q)) rfl ?_
        refine RQ.to (L' := [some (.ref 14), some (.int (iI (lk tp (fA S)))), some (.ref 18)]) (st' := [.int (iI (fW S + 1)), .ref 15]) rfl (by simp only [iI_add, iI_sub, iI_mul, iI_neg]) ?_
        refine RQ.seg 6 (pc' := 58) (L' := [some (.ref 14), some (.int (iI (lk tp (fA S)))), some (.ref 18)]) (st' := [.ref 18, .int (iI 0), .ref 18, .int (iI 0), .retAddr 5]) (g1 := (HW (usc (usc sc 1401 (sk tp (fA S))) 1503 (fW S + 1)) ar tx oc rl ou tl, q)) rfl ?_
        refine RQ.alen rfl rfl ?_
        refine RQ.acpk (n := 4) (f := kc5) (f1 := (ar 18)) (g1 := (HW (usc (usc sc 1401 (sk tp (fA S))) 1503 (fW S + 1)) (usc ar 18 (cpz kc5 (ar 18) 4)) tx oc rl ou tl, q)) rfl (by decide +kernel) rfl hK5 rfl (by decide) (by decide) (by decide) (HWa_18 rfl) ?_
        refine RQ.seg 5 (pc' := 73) (L' := [some (.ref 14), some (.int (iI (lk tp (fA S)))), some (.ref 18)]) (st' := [.ref 18, .retAddr 7, .retAddr 6, .retAddr 0, .ref 14]) (g1 := (HW (usc (usc sc 1401 (sk tp (fA S))) 1503 (fW S + 1)) (usc ar 18 (cpz kc5 (ar 18) 4)) tx oc rl ou tl, q)) rfl ?_
        have hkp := tch_pos (tp := tp) (p := sk tp (fA S)) (by show lk tp (fA S) ≠ 0; omega)
        refine RQ.callQ rfl rfl (x_items_w1 (sc := usc (usc sc 1401 (sk tp (fA S))) 1503 (fW S + 1)) (ar := usc ar 18 (cpz kc5 (ar 18) 4)) (p := sk tp (fA S)) (v := kc5) ht hs hl hK0 hK6 hK7 rfl (by omega) h0 (fun j j0 j1 => cpz_l j1)) (fun rv g1 hc => ?_)
        obtain ⟨rfl, a1, w1, f1, rfl, q1, q2, q3, q4⟩ := hc
        refine RQ.hp (g1 := (HW (usc (usc (usc sc 1401 a1) 1402 w1) 1503 (fW S + 1)) (usc ar 18 f1) tx oc rl ou tl, q)) (HW_e (by rw [usc_sw _ 1503 1401 _ _ rfl, usc_uu _ 1401 _ _, usc_sw _ 1503 1402 _ _ rfl]; try rfl) (by rw [usc_uu _ 18 _ _]; try rfl)) ?_
        refine RQ.seg 1 (pc' := 202) (L' := [some (.ref 14), some (.int (iI (lk tp (fA S)))), some (.ref 18)]) (st' := []) (g1 := (HW (usc (usc (usc sc 1401 a1) 1402 w1) 1503 (fW S + 1)) (usc ar 18 f1) tx oc rl ou tl, q)) rfl ?_
        refine RQ.ret rfl rfl ?_
        have eT : cls tp S = ((iW tp (sk tp (fA S) + 1)).1, (iW tp (sk tp (fA S) + 1)).2.1, fW S + 1, fB S, fL S, usf (gW S) (fW S) (iW tp (sk tp (fA S) + 1)).2.2, gB S, gL S) := by unfold cls; rw [if_pos (by omega)]
        rw [eT]
        exact ⟨rfl, _, _, rfl, (by repeat (first | exact Same.rf | refine Same.us rfl ?_)), (by repeat (first | exact Same.rf | refine Same.us rfl ?_)), q3, fun z9 => ⟨(q4 z9).1, y2, rfl, y4, (fun jj j0 j1 => ⟨(fun _ => by show ar 17 jj = usf (gW S) (fW S) _ 0 jj; rw [usf_n (by omega)]; exact (y5 jj j0 j1).1 (by omega)), (fun _ => by show f1 jj = usf (gW S) (fW S) _ 1 jj; rw [hz, usf_s]; exact (q4 z9).2 jj j0 j1), (fun zz => absurd (show 2 < fW S + 1 from zz) (by omega)), (fun zz => absurd (show 3 < fW S + 1 from zz) (by omega))⟩), y6, y7⟩, q2, q1, by show 0 ≤ fW S + 1 ∧ fW S + 1 ≤ 4; omega, by show 0 ≤ sc 1504 ∧ sc 1504 ≤ 3; omega⟩
      · skip
        refine RQ.aald (z := fW S) rfl rfl rfl (by omega) (by decide) ?_
        refine RQ.to (L' := [some (.ref 14), some (.int (iI (lk tp (fA S)))), none]) (st' := [.ref 19]) rfl (by rw [hz]; rfl) ?_
        refine RQ.seg 5 (pc' := 46) (L' := [some (.ref 14), some (.int (iI (lk tp (fA S)))), some (.ref 19)]) (st' := [.int (iI (sc 1503)), .ref 15]) (g1 := (HW (usc sc 1401 (sk tp (fA S))) ar tx oc rl ou tl, q)) rfl ?_
        refine RQ.to (L' := [some (.ref 14), some (.int (iI (lk tp (fA S)))), some (.ref 19)]) (st' := [.int (iI (fW S)), .ref 15]) rfl (by rw [show sc 1503 = fW S from y3]) ?_
        refine RQ.seg 2 (pc' := 48) (L' := [some (.ref 14), some (.int (iI (lk tp (fA S)))), some (.ref 19)]) (st' := [.int ((iI (fW S)) + (iI 1)), .ref 15]) (g1 := (HW (usc sc 1401 (sk tp (fA S))) ar tx oc rl ou tl, q)) rfl ?_
        refine RQ.to (L' := [some (.ref 14), some (.int (iI (lk tp (fA S)))), some (.ref 19)]) (st' := [.int (iI (fW S + 1)), .ref 15]) rfl (by simp only [iI_add, iI_sub, iI_mul, iI_neg]) ?_
        refine RQ.seg 6 (pc' := 58) (L' := [some (.ref 14), some (.int (iI (lk tp (fA S)))), some (.ref 19)]) (st' := [.ref 19, .int (iI 0), .ref 19, .int (iI 0), .retAddr 5]) (g1 := (HW (usc (usc sc 1401 (sk tp (fA S))) 1503 (fW S + 1)) ar tx oc rl ou tl, q)) rfl ?_
        refine RQ.alen rfl rfl ?_
        refine RQ.acpk (n := 4) (f := kc5) (f1 := (ar 19)) (g1 := (HW (usc (usc sc 1401 (sk tp (fA S))) 1503 (fW S + 1)) (usc ar 19 (cpz kc5 (ar 19) 4)) tx oc rl ou tl, q)) rfl (by decide +kernel) rfl hK5 rfl (by decide) (by decide) (by decide) (HWa_19 rfl) ?_
        refine RQ.seg 5 (pc' := 73) (L' := [some (.ref 14), some (.int (iI (lk tp (fA S)))), some (.ref 19)]) (st' := [.ref 19, .retAddr 7, .retAddr 6, .retAddr 0, .ref 14]) (g1 := (HW (usc (usc sc 1401 (sk tp (fA S))) 1503 (fW S + 1)) (usc ar 19 (cpz kc5 (ar 19) 4)) tx oc rl ou tl, q)) rfl ?_
        have hkp := tch_pos (tp := tp) (p := sk tp (fA S)) (by show lk tp (fA S) ≠ 0; omega)
        refine RQ.callQ rfl rfl (x_items_w2 (sc := usc (usc sc 1401 (sk tp (fA S))) 1503 (fW S + 1)) (ar := usc ar 19 (cpz kc5 (ar 19) 4)) (p := sk tp (fA S)) (v := kc5) ht hs hl hK0 hK6 hK7 rfl (by omega) h0 (fun j j0 j1 => cpz_l j1)) (fun rv g1 hc => ?_)
        obtain ⟨rfl, a1, w1, f1, rfl, q1, q2, q3, q4⟩ := hc
        refine RQ.hp (g1 := (HW (usc (usc (usc sc 1401 a1) 1402 w1) 1503 (fW S + 1)) (usc ar 19 f1) tx oc rl ou tl, q)) (HW_e (by rw [usc_sw _ 1503 1401 _ _ rfl, usc_uu _ 1401 _ _, usc_sw _ 1503 1402 _ _ rfl]; try rfl) (by rw [usc_uu _ 19 _ _]; try rfl)) ?_
        refine RQ.seg 1 (pc' := 202) (L' := [some (.ref 14), some (.int (iI (lk tp (fA S)))), some (.ref 19)]) (st' := []) (g1 := (HW (usc (usc (usc sc 1401 a1) 1402 w1) 1503 (fW S + 1)) (usc ar 19 f1) tx oc rl ou tl, q)) rfl ?_
        refine RQ.ret rfl rfl ?_
        have eT : cls tp S = ((iW tp (sk tp (fA S) + 1)).1, (iW tp (sk tp (fA S) + 1)).2.1, fW S + 1, fB S, fL S, usf (gW S) (fW S) (iW tp (sk tp (fA S) + 1)).2.2, gB S, gL S) := by unfold cls; rw [if_pos (by omega)]
        rw [eT]
        exact ⟨rfl, _, _, rfl, (by repeat (first | exact Same.rf | refine Same.us rfl ?_)), (by repeat (first | exact Same.rf | refine Same.us rfl ?_)), q3, fun z9 => ⟨(q4 z9).1, y2, rfl, y4, (fun jj j0 j1 => ⟨(fun _ => by show ar 17 jj = usf (gW S) (fW S) _ 0 jj; rw [usf_n (by omega)]; exact (y5 jj j0 j1).1 (by omega)), (fun _ => by show ar 18 jj = usf (gW S) (fW S) _ 1 jj; rw [usf_n (by omega)]; exact (y5 jj j0 j1).2.1 (by omega)), (fun _ => by show f1 jj = usf (gW S) (fW S) _ 2 jj; rw [hz, usf_s]; exact (q4 z9).2 jj j0 j1), (fun zz => absurd (show 3 < fW S + 1 from zz) (by omega))⟩), y6, y7⟩, q2, q1, by show 0 ≤ fW S + 1 ∧ fW S + 1 ≤ 4; omega, by show 0 ≤ sc 1504 ∧ sc 1504 ≤ 3; omega⟩
      · skip
        refine RQ.aald (z := fW S) rfl rfl rfl (by omega) (by decide) ?_
        refine RQ.to (L' := [some (.ref 14), some (.int (iI (lk tp (fA S)))), none]) (st' := [.ref 20]) rfl (by rw [hz]; rfl) ?_
        refine RQ.seg 5 (pc' := 46) (L' := [some (.ref 14), some (.int (iI (lk tp (fA S)))), some (.ref 20)]) (st' := [.int (iI (sc 1503)), .ref 15]) (g1 := (HW (usc sc 1401 (sk tp (fA S))) ar tx oc rl ou tl, q)) rfl ?_
        refine RQ.to (L' := [some (.ref 14), some (.int (iI (lk tp (fA S)))), some (.ref 20)]) (st' := [.int (iI (fW S)), .ref 15]) rfl (by rw [show sc 1503 = fW S from y3]) ?_
        refine RQ.seg 2 (pc' := 48) (L' := [some (.ref 14), some (.int (iI (lk tp (fA S)))), some (.ref 20)]) (st' := [.int ((iI (fW S)) + (iI 1)), .ref 15]) (g1 := (HW (usc sc 1401 (sk tp (fA S))) ar tx oc rl ou tl, q)) rfl ?_
        refine RQ.to (L' := [some (.ref 14), some (.int (iI (lk tp (fA S)))), some (.ref 20)]) (st' := [.int (iI (fW S + 1)), .ref 15]) rfl (by simp only [iI_add, iI_sub, iI_mul, iI_neg]) ?_
        refine RQ.seg 6 (pc' := 58) (L' := [some (.ref 14), some (.int (iI (lk tp (fA S)))), some (.ref 20)]) (st' := [.ref 20, .int (iI 0), .ref 20, .int (iI 0), .retAddr 5]) (g1 := (HW (usc (usc sc 1401 (sk tp (fA S))) 1503 (fW S + 1)) ar tx oc rl ou tl, q)) rfl ?_
        refine RQ.alen rfl rfl ?_
        refine RQ.acpk (n := 4) (f := kc5) (f1 := (ar 20)) (g1 := (HW (usc (usc sc 1401 (sk tp (fA S))) 1503 (fW S + 1)) (usc ar 20 (cpz kc5 (ar 20) 4)) tx oc rl ou tl, q)) rfl (by decide +kernel) rfl hK5 rfl (by decide) (by decide) (by decide) (HWa_20 rfl) ?_
        refine RQ.seg 5 (pc' := 73) (L' := [some (.ref 14), some (.int (iI (lk tp (fA S)))), some (.ref 20)]) (st' := [.ref 20, .retAddr 7, .retAddr 6, .retAddr 0, .ref 14]) (g1 := (HW (usc (usc sc 1401 (sk tp (fA S))) 1503 (fW S + 1)) (usc ar 20 (cpz kc5 (ar 20) 4)) tx oc rl ou tl, q)) rfl ?_
        have hkp := tch_pos (tp := tp) (p := sk tp (fA S)) (by show lk tp (fA S) ≠ 0; omega)
        refine RQ.callQ rfl rfl (x_items_w3 (sc := usc (usc sc 1401 (sk tp (fA S))) 1503 (fW S + 1)) (ar := usc ar 20 (cpz kc5 (ar 20) 4)) (p := sk tp (fA S)) (v := kc5) ht hs hl hK0 hK6 hK7 rfl (by omega) h0 (fun j j0 j1 => cpz_l j1)) (fun rv g1 hc => ?_)
        obtain ⟨rfl, a1, w1, f1, rfl, q1, q2, q3, q4⟩ := hc
        refine RQ.hp (g1 := (HW (usc (usc (usc sc 1401 a1) 1402 w1) 1503 (fW S + 1)) (usc ar 20 f1) tx oc rl ou tl, q)) (HW_e (by rw [usc_sw _ 1503 1401 _ _ rfl, usc_uu _ 1401 _ _, usc_sw _ 1503 1402 _ _ rfl]; try rfl) (by rw [usc_uu _ 20 _ _]; try rfl)) ?_
        refine RQ.seg 1 (pc' := 202) (L' := [some (.ref 14), some (.int (iI (lk tp (fA S)))), some (.ref 20)]) (st' := []) (g1 := (HW (usc (usc (usc sc 1401 a1) 1402 w1) 1503 (fW S + 1)) (usc ar 20 f1) tx oc rl ou tl, q)) rfl ?_
        refine RQ.ret rfl rfl ?_
        have eT : cls tp S = ((iW tp (sk tp (fA S) + 1)).1, (iW tp (sk tp (fA S) + 1)).2.1, fW S + 1, fB S, fL S, usf (gW S) (fW S) (iW tp (sk tp (fA S) + 1)).2.2, gB S, gL S) := by unfold cls; rw [if_pos (by omega)]
        rw [eT]
        exact ⟨rfl, _, _, rfl, (by repeat (first | exact Same.rf | refine Same.us rfl ?_)), (by repeat (first | exact Same.rf | refine Same.us rfl ?_)), q3, fun z9 => ⟨(q4 z9).1, y2, rfl, y4, (fun jj j0 j1 => ⟨(fun _ => by show ar 17 jj = usf (gW S) (fW S) _ 0 jj; rw [usf_n (by omega)]; exact (y5 jj j0 j1).1 (by omega)), (fun _ => by show ar 18 jj = usf (gW S) (fW S) _ 1 jj; rw [usf_n (by omega)]; exact (y5 jj j0 j1).2.1 (by omega)), (fun _ => by show ar 19 jj = usf (gW S) (fW S) _ 2 jj; rw [usf_n (by omega)]; exact (y5 jj j0 j1).2.2.1 (by omega)), (fun _ => by show f1 jj = usf (gW S) (fW S) _ 3 jj; rw [hz, usf_s]; exact (q4 z9).2 jj j0 j1)⟩), y6, y7⟩, q2, q1, by show 0 ≤ fW S + 1 ∧ fW S + 1 ≤ 4; omega, by show 0 ≤ sc 1504 ∧ sc 1504 ≤ 3; omega⟩
