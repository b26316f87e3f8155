/-! play and judge, told by what they leave, by wip/tools -/
section
/-! heaps that are alike but for scratch -/
def Same {α : Type} (l : List Nat) (f g : Nat → α) : Prop := ∀ k, l.elem k = false → g k = f k
theorem Same.rf {α : Type} {l : List Nat} {f : Nat → α} : Same l f f := fun _ _ => rfl
theorem Same.us {α : Type} {l : List Nat} {f g : Nat → α} {k : Nat} {v : α} (hk : l.elem k = true) (h : Same l f g) : Same l f (usc g k v) := by
  intro j hj
  show (bif Nat.beq j k then v else g j) = f j
  cases hb : Nat.beq j k with
  | false => exact h j hj
  | true =>
    have e := Nat.eq_of_beq_eq_true hb
    subst e
    rw [hk] at hj
    cases hj
theorem Same.tr {α : Type} {l : List Nat} {f g h : Nat → α} (h1 : Same l f g) (h2 : Same l g h) : Same l f h := fun k hk => (h2 k hk).trans (h1 k hk)
theorem Same.w {α : Type} {l l' : List Nat} {f g : Nat → α} (hl : l.all (fun k => l'.elem k) = true) (h : Same l f g) : Same l' f g := by
  intro k hk
  apply h
  cases he : l.elem k with
  | false => rfl
  | true =>
    have h1 := List.all_eq_true.mp hl k (List.mem_of_elem_eq_true he)
    rw [hk] at h1
    cases h1
theorem usc_id {α : Type} (f : Nat → α) (k : Nat) : usc f k (f k) = f := by
  funext j
  show (bif Nat.beq j k then f k else f j) = f j
  cases hb : Nat.beq j k with
  | false => rfl
  | true => rw [Nat.eq_of_beq_eq_true hb]; rfl
/-- scratch of both: fields, arrays -/
def scF : List Nat := [1401, 1402, 1404, 1503, 1504, 2601, 2602, 2701, 2703, 5112, 7203, 7204, 8000, 8008, 8009, 8010, 8011, 8012, 8013, 8014, 8017, 8026, 8027, 8028, 8046, 8047, 8052, 8064]
def scA : List Nat := [17, 18, 19, 20, 22, 23, 24, 25, 28, 29, 52, 53, 54, 55, 56, 57, 58, 59, 60, 61, 62, 70, 74, 75, 76, 78, 79, 88, 89, 90, 96, 97, 98, 99, 100, 101, 102, 103, 104, 105, 106, 107, 108, 109, 110]
theorem FrX.sm {sc sc' : Nat → Int} {ar ar' : Nat → Int → Int} {nw nb : Int} {W B : Int → Int → Int} (hs : Same scF sc sc') (ha : Same scA ar ar') (h : FrX (sc 303) (sc 304) (ar 5) (ar 6) (ar 7) (ar 8) (ar 10) (ar 11) (ar 12) nw nb W B) : FrX (sc' 303) (sc' 304) (ar' 5) (ar' 6) (ar' 7) (ar' 8) (ar' 10) (ar' 11) (ar' 12) nw nb W B := by
  rw [hs 303 rfl, hs 304 rfl, ha 5 rfl, ha 6 rfl, ha 7 rfl, ha 8 rfl, ha 10 rfl, ha 11 rfl, ha 12 rfl]
  exact h
theorem FrM.sm {sc sc' : Nat → Int} {ar ar' : Nat → Int → Int} {nw nb : Int} {W B : Int → Int → Int} (hs : Same scF sc sc') (ha : Same scA ar ar') (h : FrM (sc 8024) (sc 8025) (ar 85) (ar 86) nw nb W B) : FrM (sc' 8024) (sc' 8025) (ar' 85) (ar' 86) nw nb W B := by
  rw [hs 8024 rfl, hs 8025 rfl, ha 85 rfl, ha 86 rfl]
  exact h
/-- visits as the class holds them -/
def Sx (sc : Nat → Int) (ar : Nat → Int → Int) (y : Int → Int) : SV := (ar 55, ar 59, y, ar 56, sc 5112, ar 60, ar 61, ar 62)
def Sm (sc : Nat → Int) (ar : Nat → Int → Int) : SV := (ar 101, ar 99, ar 103, ar 102, sc 8047, ar 104, ar 105, ar 106)
def PlyP (nw nb : Int) (W B : Int → Int → Int) (P : Int → Int) (sc : Nat → Int) (ar : Nat → Int → Int) : Prop := ∃ y, SOK nw nb (Sx sc ar y) ∧ SJ nw nb W B P (Sx sc ar y) ∧ SEq nw nb (Sx sc ar y) (svn nb W B P) ∧ (∀ j, 0 ≤ j → j < 3 → ar 53 j = xwi nb B P j) ∧ (∀ j, 0 ≤ j → j < 3 → ar 57 j = if j < nb then shk nb W B P j else 0) ∧ (∀ j, 0 ≤ j → j < nb → bkv nb B P j = 0 → ar 58 j = clb nb W B P j)
def JdgP (nw nb : Int) (W B : Int → Int → Int) (P law : Int → Int) (sc : Nat → Int) (ar : Nat → Int → Int) : Prop := SOK nw nb (Sm sc ar) ∧ SEq nw nb (Sm sc ar) (svn nb W B P) ∧ sc 8046 = mkb nb B P ∧ (∀ j, 0 ≤ j → j < nb → ar 97 j = shk nb W B P j) ∧ (∀ j, 0 ≤ j → j < nb → bkv nb B P j = 0 → ar 98 j = clb nb W B P j) ∧ (∀ j, 0 ≤ j → j < nb → ar 100 j = gnr nw nb W B law P j)
def rF : List Nat := [5112]
def rA : List Nat := [52, 53, 54, 55, 56, 57, 58, 59, 60, 61, 62]
def jF : List Nat := [8046, 8047]
def jA : List Nat := [97, 98, 99, 100, 101, 102, 103, 104, 105, 106]
/-- a number as a row: the puts -/
def prow (nb row : Int) : Int → Int := rwp nb.toNat row (fun _ => 0)
theorem rwp_o : ∀ (n : Nat) (v : Int) (f : Int → Int) (b : Int), (n : Int) ≤ b → rwp n v f b = f b
  | 0, _, _, _, _ => rfl
  | n + 1, v, f, b, h => by
    rw [rwp, rwp_o n _ _ b (by omega), usz_n (by omega)]
theorem rwp_c : ∀ (n : Nat) (v : Int) (f g : Int → Int) (b : Int), 0 ≤ b → b < n → rwp n v f b = rwp n v g b
  | 0, _, _, _, _, _, h => by omega
  | n + 1, v, f, g, b, h0, h1 => by
    rw [rwp, rwp]
    by_cases e : b < n
    · exact rwp_c n _ _ _ b h0 e
    · obtain rfl : b = n := by omega
      rw [rwp_o n _ _ _ (by omega), rwp_o n _ _ _ (by omega), usz_s, usz_s]
theorem rwb_may {nw : Int} {W B : Int → Int → Int} : ∀ (n : Nat) (v : Int) (f : Int → Int), rwb nw W B n v = true → ∀ b : Int, 0 ≤ b → b < n → may nw W B b (rwp n v f b)
  | 0, _, _, _, _, _, h => by omega
  | n + 1, v, f, h, b, h0, h1 => by
    rw [rwb, Bool.and_eq_true] at h
    rw [rwp]
    by_cases e : b < n
    · exact rwb_may n _ _ h.2 b h0 e
    · obtain rfl : b = n := by omega
      rw [rwp_o n _ _ _ (by omega), usz_s]
      exact mb_t.mp h.1
theorem prow_ok {nw nb : Int} {W B : Int → Int → Int} {row : Int} (hn : 0 ≤ nb) (h : rwb nw W B nb.toNat row = true) : PtOK nw nb W B (prow nb row) := fun b h0 h1 => rwb_may nb.toNat row _ h b h0 (by omega)
theorem prow_c {nb row b : Int} (f : Int → Int) (hn : 0 ≤ nb) (h0 : 0 ≤ b) (h1 : b < nb) : rwp nb.toNat row f b = prow nb row b := rwp_c _ _ _ _ b h0 (by omega)
abbrev rok (nw nb : Int) (W B : Int → Int → Int) (row : Int) : Prop := 0 < nb ∧ 0 ≤ row ∧ rwb nw W B nb.toNat row = true
end

theorem x_run78 {K : PK} {d : Nat} {sc : Nat → Int} {ar : Nat → Int → Int} {tx oc : Nat} {rl : Nat → Option Nat} {ou : Nat → Int64} {tl : List PO} {q : Nat × Nat} {nw nb : Int} {W B : Int → Int → Int} (hF : FrOK nw nb W B) (hX : FrX (sc 303) (sc 304) (ar 5) (ar 6) (ar 7) (ar 8) (ar 10) (ar 11) (ar 12) nw nb W B) {P : Int → Int} (hPu : ∀ b, 0 ≤ b → b < nb → ar 78 b = P b) (hmy : PtOK nw nb W B P) : CQ K (d + 3) 29 [.ref 51, .ref 78] (HW sc ar tx oc rl ou tl, q) (fun r g' => r = none ∧ ∃ sc' ar', g' = (HW sc' ar' tx oc rl ou tl, q) ∧ PlyP nw nb W B P sc' ar' ∧ Same rF sc sc' ∧ Same rA ar ar') := by
  obtain ⟨r, g', hc, rfl, S, pl, wi, nx, sh, cl, rfl, hI, hpl, hwi, hsh, hcl⟩ := x_run78_c (d := d) (K := K) (q := q) (tx := tx) (oc := oc) (rl := rl) (ou := ou) (tl := tl) hF hX hPu hmy
  refine ⟨_, _, hc, rfl, _, _, rfl, ⟨sY (crn nb W B P 36 S (nx0 nb W B P (sL S))), ?_⟩, (by repeat (first | exact Same.rf | refine Same.us rfl ?_)), (by repeat (first | exact Same.rf | refine Same.us rfl ?_))⟩
  have e := crn_val hF hmy hI
  show SOK nw nb (crn nb W B P 36 S (nx0 nb W B P (sL S))) ∧ SJ nw nb W B P (crn nb W B P 36 S (nx0 nb W B P (sL S))) ∧ SEq nw nb (crn nb W B P 36 S (nx0 nb W B P (sL S))) (svn nb W B P) ∧ (∀ j, 0 ≤ j → j < 3 → wi j = xwi nb B P j) ∧ (∀ j, 0 ≤ j → j < 3 → sh j = if j < nb then shk nb W B P j else 0) ∧ (∀ j, 0 ≤ j → j < nb → bkv nb B P j = 0 → cl j = clb nb W B P j)
  rw [e]
  exact ⟨SOK.al hF hmy 59 1 _ (hI.ok hF), SJ.al hF hmy 59 1 _ (SJ.in hF hI), svn_eq hF hmy hI, hwi, hsh, hcl⟩
theorem x_run70 {K : PK} {d : Nat} {sc : Nat → Int} {ar : Nat → Int → Int} {tx oc : Nat} {rl : Nat → Option Nat} {ou : Nat → Int64} {tl : List PO} {q : Nat × Nat} {nw nb : Int} {W B : Int → Int → Int} (hF : FrOK nw nb W B) (hX : FrX (sc 303) (sc 304) (ar 5) (ar 6) (ar 7) (ar 8) (ar 10) (ar 11) (ar 12) nw nb W B) {P : Int → Int} (hPu : ∀ b, 0 ≤ b → b < nb → ar 70 b = P b) (hmy : PtOK nw nb W B P) : CQ K (d + 3) 29 [.ref 51, .ref 70] (HW sc ar tx oc rl ou tl, q) (fun r g' => r = none ∧ ∃ sc' ar', g' = (HW sc' ar' tx oc rl ou tl, q) ∧ PlyP nw nb W B P sc' ar' ∧ Same rF sc sc' ∧ Same rA ar ar') := by
  obtain ⟨r, g', hc, rfl, S, pl, wi, nx, sh, cl, rfl, hI, hpl, hwi, hsh, hcl⟩ := x_run70_c (d := d) (K := K) (q := q) (tx := tx) (oc := oc) (rl := rl) (ou := ou) (tl := tl) hF hX hPu hmy
  refine ⟨_, _, hc, rfl, _, _, rfl, ⟨sY (crn nb W B P 36 S (nx0 nb W B P (sL S))), ?_⟩, (by repeat (first | exact Same.rf | refine Same.us rfl ?_)), (by repeat (first | exact Same.rf | refine Same.us rfl ?_))⟩
  have e := crn_val hF hmy hI
  show SOK nw nb (crn nb W B P 36 S (nx0 nb W B P (sL S))) ∧ SJ nw nb W B P (crn nb W B P 36 S (nx0 nb W B P (sL S))) ∧ SEq nw nb (crn nb W B P 36 S (nx0 nb W B P (sL S))) (svn nb W B P) ∧ (∀ j, 0 ≤ j → j < 3 → wi j = xwi nb B P j) ∧ (∀ j, 0 ≤ j → j < 3 → sh j = if j < nb then shk nb W B P j else 0) ∧ (∀ j, 0 ≤ j → j < nb → bkv nb B P j = 0 → cl j = clb nb W B P j)
  rw [e]
  exact ⟨SOK.al hF hmy 59 1 _ (hI.ok hF), SJ.al hF hmy 59 1 _ (SJ.in hF hI), svn_eq hF hmy hI, hwi, hsh, hcl⟩
theorem m_judgeA {K : PK} {d : Nat} {sc : Nat → Int} {ar : Nat → Int → Int} {tx oc : Nat} {rl : Nat → Option Nat} {ou : Nat → Int64} {tl : List PO} {q : Nat × Nat} {nw nb : Int} {W B : Int → Int → Int} (hF : FrOK nw nb W B) (hM : FrM (sc 8024) (sc 8025) (ar 85) (ar 86) nw nb W B) {P : Int → Int} (hPu : ∀ b, 0 ≤ b → b < nb → ar 96 b = P b) (hmy : PtOK nw nb W B P) {law : Int → Int} (hlw : ∀ j, 0 ≤ j → j < 4 → ar 87 j = law j) (hL : LwOK law) : CQ K (d + 3) 198 [.ref 80] (HW sc ar tx oc rl ou tl, q) (fun r g' => r = none ∧ ∃ sc' ar', g' = (HW sc' ar' tx oc rl ou tl, q) ∧ JdgP nw nb W B P law sc' ar' ∧ Same jF sc sc' ∧ Same jA ar ar') := by
  obtain ⟨r, g', hc, rfl, S, sh, cl, ga, hI, hsh, hcl, hga, rfl⟩ := m_judge (d := d) (K := K) (q := q) (tx := tx) (oc := oc) (rl := rl) (ou := ou) (tl := tl) hF hM hPu hmy hlw hL
  exact ⟨_, _, hc, rfl, _, _, rfl, ⟨SOK.al hF hmy 59 1 _ (hI.ok hF), svn_eq hF hmy hI, rfl, hsh, hcl, fun j h0 h1 => (hga j h0 h1).trans (gnr_m hF hmy hI ⟨h0, h1⟩ law)⟩, (by repeat (first | exact Same.rf | refine Same.us rfl ?_)), (by repeat (first | exact Same.rf | refine Same.us rfl ?_))⟩
theorem x_outA {K : PK} {d : Nat} {sc : Nat → Int} {ar : Nat → Int → Int} {tx oc : Nat} {rl : Nat → Option Nat} {ou : Nat → Int64} {tl : List PO} {q : Nat × Nat} {P : Int → Int} {nw nb : Int} {W B : Int → Int → Int} (hF : FrOK nw nb W B) (hX : FrX (sc 303) (sc 304) (ar 5) (ar 6) (ar 7) (ar 8) (ar 10) (ar 11) (ar 12) nw nb W B) (hmy : PtOK nw nb W B P) (hp : PlyP nw nb W B P sc ar) : ∃ y, SOK nw nb (Sx sc ar y) ∧ SJ nw nb W B P (Sx sc ar y) ∧ SEq nw nb (Sx sc ar y) (svn nb W B P) ∧ CallR K (d + 2) 42 [.ref 51] (HW sc ar tx oc rl ou tl, q) (some (.int (iI (ocv nb W B P (Sx sc ar y))))) (HW sc ar tx oc rl ou tl, q) := by
  obtain ⟨y, h1, h2, h3, h4, h5, h6⟩ := hp
  refine ⟨y, h1, h2, h3, ?_⟩
  have h := x_outcome (K := K) (d := d) (q := q) (sc := sc) (ar := ar) (tx := tx) (oc := oc) (rl := rl) (ou := ou) (tl := tl) (S := Sx sc ar y) (pl := ar 52) (wi := ar 53) (nx := ar 54) (sh := ar 57) (cl := ar 58) hF hX hmy h4 h5 h1 h2
  have e : (HW sc ar tx oc rl ou tl, q) = (HW (usc sc 5112 (sT (Sx sc ar y))) (usc (usc (usc (usc (usc (usc (usc (usc (usc (usc (usc ar 52 (ar 52)) 53 (ar 53)) 54 (ar 54)) 55 (sL (Sx sc ar y))) 56 (sF (Sx sc ar y))) 57 (ar 57)) 58 (ar 58)) 59 (sS (Sx sc ar y))) 60 (sA (Sx sc ar y))) 61 (sB (Sx sc ar y))) 62 (sC (Sx sc ar y))) tx oc rl ou tl, q) := by
    show _ = (HW (usc sc 5112 (sc 5112)) (usc (usc (usc (usc (usc (usc (usc (usc (usc (usc (usc ar 52 (ar 52)) 53 (ar 53)) 54 (ar 54)) 55 (ar 55)) 56 (ar 56)) 57 (ar 57)) 58 (ar 58)) 59 (ar 59)) 60 (ar 60)) 61 (ar 61)) 62 (ar 62)) tx oc rl ou tl, q)
    rw [usc_id, usc_id, usc_id, usc_id, usc_id, usc_id, usc_id, usc_id, usc_id, usc_id, usc_id, usc_id]
  rw [e]
  exact h
