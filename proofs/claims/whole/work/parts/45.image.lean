/-! images of both sides, by wip/tools -/
/-! a season: law, rules of the brigades, ashes, nights; images of both sides -/
abbrev SS : Type := (Int → Int) × (Int → Int) × Int × (Int → Int) × (Int → Int) × (Int → Int) × SD
def zL (Z : SS) : Int → Int := Z.1
def zR (Z : SS) : Int → Int := Z.2.1
def zN (Z : SS) : Int := Z.2.2.1
def zs (Z : SS) : Int → Int := Z.2.2.2.1
def zw (Z : SS) : Int → Int := Z.2.2.2.2.1
def zv (Z : SS) : Int → Int := Z.2.2.2.2.2.1
def zD (Z : SS) : SD := Z.2.2.2.2.2.2
def SeO (Z : SS) (na : Int) (f32 f33 f34 f35 f36 : Int → Int) : Prop := (∀ j, 0 ≤ j → j < 4 → f32 j = zL Z j) ∧ (∀ b, 0 ≤ b → b < 3 → f33 b = zR Z b) ∧ na = zN Z ∧ (∀ k, 0 ≤ k → k < zN Z → f34 k = zs Z k ∧ f35 k = zw Z k ∧ f36 k = zv Z k)
def SeA (Z : SS) (na n u : Int) (f32 f33 f34 f35 f36 f37 f38 f39 f40 : Int → Int) : Prop := SeO Z na f32 f33 f34 f35 f36 ∧ NtA (zD Z) n u f37 f38 f39 f40
def SeB (nb : Int) (Z : SS) (na n u : Int) (f32 f33 f34 f35 f36 f37 f38 f39 f40 : Int → Int) : Prop := SeO Z na f32 f33 f34 f35 f36 ∧ NtB nb (zD Z) n u f37 f38 f39 f40
abbrev SeX (Z : SS) (sc : Nat → Int) (ar : Nat → Int → Int) : Prop := SeA Z (sc 3105) (sc 3106) (sc 3107) (ar 32) (ar 33) (ar 34) (ar 35) (ar 36) (ar 37) (ar 38) (ar 39) (ar 40)
abbrev SeI (Z : SS) (sc : Nat → Int) (ar : Nat → Int → Int) : Prop := SeA Z (sc 4105) (sc 4106) (sc 4107) (ar 42) (ar 43) (ar 44) (ar 45) (ar 46) (ar 47) (ar 48) (ar 49) (ar 50)
abbrev SeM (nb : Int) (Z : SS) (sc : Nat → Int) (ar : Nat → Int → Int) : Prop := SeB nb Z (sc 8056) (sc 8032) (sc 8059) (ar 87) (ar 91) (ar 111) (ar 112) (ar 113) (ar 92) (ar 93) (ar 114) (ar 115)
abbrev SeJ (nb : Int) (Z : SS) (sc : Nat → Int) (ar : Nat → Int → Int) : Prop := SeB nb Z (sc 8063) (sc 8061) (sc 8062) (fun j => ar 116 (9 + j)) (fun j => ar 116 (0 + j)) (fun j => ar 116 (13 + j)) (fun j => ar 116 (23 + j)) (fun j => ar 116 (33 + j)) (fun j => ar 116 (3 + j)) (fun j => ar 116 (6 + j)) (fun j => ar 116 (43 + j)) (fun j => ar 116 (163 + j))
/-- a season whose numbers are in their bounds -/
def SeOK (nb : Int) (Z : SS) : Prop := LwOK (zL Z) ∧ (0 ≤ zN Z ∧ zN Z ≤ 10) ∧ NtOK nb (zD Z)
theorem SeO.cp {Z : SS} {na na' : Int} {f0 f1 f2 f3 f4 g0 g1 g2 g3 g4 : Int → Int} (hz : 0 ≤ zN Z ∧ zN Z ≤ 10) (e : na' = na) (h0 : ∀ j, 0 ≤ j → j < 4 → g0 j = f0 j) (h1 : ∀ j, 0 ≤ j → j < 3 → g1 j = f1 j) (h2 : ∀ j, 0 ≤ j → j < 10 → g2 j = f2 j) (h3 : ∀ j, 0 ≤ j → j < 10 → g3 j = f3 j) (h4 : ∀ j, 0 ≤ j → j < 10 → g4 j = f4 j) (h : SeO Z na f0 f1 f2 f3 f4) : SeO Z na' g0 g1 g2 g3 g4 := by
  refine ⟨fun j a b => (h0 j a b).trans (h.1 j a b), fun j a b => (h1 j a b).trans (h.2.1 j a b), e.trans h.2.2.1, fun j a b => ?_⟩
  obtain ⟨x1, x2, x3⟩ := h.2.2.2 j a b
  exact ⟨(h2 j a (by omega)).trans x1, (h3 j a (by omega)).trans x2, (h4 j a (by omega)).trans x3⟩
theorem NtA.cp {nb : Int} {D : SD} {n u n' u' : Int} {f0 f1 f2 f3 g0 g1 g2 g3 : Int → Int} (hO : NtOK nb D) (e1 : n' = n) (e2 : u' = u) (h0 : ∀ j, 0 ≤ j → j < 3 → g0 j = f0 j) (h1 : ∀ j, 0 ≤ j → j < 3 → g1 j = f1 j) (h2 : ∀ j, 0 ≤ j → j < 120 → g2 j = f2 j) (h3 : ∀ j, 0 ≤ j → j < 120 → g3 j = f3 j) (h : NtA D n u f0 f1 f2 f3) : NtA D n' u' g0 g1 g2 g3 := by
  have o1 := hO.1
  refine ⟨e1.trans h.1, e2.trans h.2.1, fun b x y => ?_, fun i b i0 i1 x y => ?_⟩
  · rw [h0 b x y, h1 b x y]; exact h.2.2.1 b x y
  · rw [h2 _ (by omega) (by omega), h3 _ (by omega) (by omega)]; exact h.2.2.2 i b i0 i1 x y
theorem NtB.cp {nb : Int} {D : SD} {n u n' u' : Int} {f0 f1 f2 f3 g0 g1 g2 g3 : Int → Int} (hb : 0 ≤ nb ∧ nb ≤ 3) (hO : NtOK nb D) (e1 : n' = n) (e2 : u' = u) (h0 : ∀ j, 0 ≤ j → j < 3 → g0 j = f0 j) (h1 : ∀ j, 0 ≤ j → j < 3 → g1 j = f1 j) (h2 : ∀ j, 0 ≤ j → j < 120 → g2 j = f2 j) (h3 : ∀ j, 0 ≤ j → j < 120 → g3 j = f3 j) (h : NtB nb D n u f0 f1 f2 f3) : NtB nb D n' u' g0 g1 g2 g3 := by
  have o1 := hO.1
  refine ⟨e1.trans h.1, e2.trans h.2.1, fun b x y => ?_, fun i b i0 i1 x y => ?_⟩
  · rw [h0 b x y, h1 b x y]; exact h.2.2.1 b x y
  · rw [h2 _ (by omega) (by omega), h3 _ (by omega) (by omega)]; exact h.2.2.2 i b i0 i1 x y
theorem usc_uu {α : Type} (f : Nat → α) (k : Nat) (a b : α) : usc (usc f k a) k b = usc f k b := by
  funext j
  show (bif Nat.beq j k then b else (bif Nat.beq j k then a else f j)) = (bif Nat.beq j k then b else f j)
  cases Nat.beq j k <;> rfl
theorem usc_sw {α : Type} (f : Nat → α) (k l : Nat) (a b : α) (h : Nat.beq k l = false) : usc (usc f k a) l b = usc (usc f l b) k a := by
  funext j
  show (bif Nat.beq j l then b else (bif Nat.beq j k then a else f j)) = (bif Nat.beq j k then a else (bif Nat.beq j l then b else f j))
  cases h1 : Nat.beq j l with
  | false => rfl
  | true =>
    rw [Nat.eq_of_beq_eq_true h1]
    cases h2 : Nat.beq l k with
    | false => rfl
    | true => rw [Nat.eq_of_beq_eq_true h2, Nat.beq_refl] at h; cases h
theorem x_copyI {K : PK} {d : Nat} {sc : Nat → Int} {ar : Nat → Int → Int} {tx oc : Nat} {rl : Nat → Option Nat} {ou : Nat → Int64} {tl : List PO} {q : Nat × Nat}  : CallR K (d + 1) 100 [.ref 41, .ref 31] (HW sc ar tx oc rl ou tl, q) none (HW (usc (usc (usc sc 4105 (sc 3105)) 4106 (sc 3106)) 4107 (sc 3107)) (usc (usc (usc (usc (usc (usc (usc (usc (usc ar 42 (cpz (ar 32) (ar 42) 4)) 43 (cpz (ar 33) (ar 43) 3)) 44 (cpz (ar 34) (ar 44) 10)) 45 (cpz (ar 35) (ar 45) 10)) 46 (cpz (ar 36) (ar 46) 10)) 47 (cpz (ar 37) (ar 47) 3)) 48 (cpz (ar 38) (ar 48) 3)) 49 (cpz (ar 39) (ar 49) 120)) 50 (cpz (ar 40) (ar 50) 120)) tx oc rl ou tl, q) := by
  apply CQ.x
  refine CQ.of (own := 8) (n := 2) (ini := false) (rt := none) (cd := cd100) (by decide +kernel) rfl (by decide +kernel) rfl (Nat.le_of_ble_eq_true rfl) ?_
  refine RQ.seg 8 (pc' := 14) (L' := [some (.ref 41), some (.ref 31)]) (st' := [.ref 42, .int (iI 0), .ref 42, .int (iI 0), .ref 32]) (g1 := (HW sc ar tx oc rl ou tl, q)) rfl ?_
  refine RQ.alen rfl rfl ?_
  refine RQ.acp (n := 4) (f := (ar 32)) (f1 := (ar 42)) (g1 := (HW sc (usc ar 42 (cpz (ar 32) (ar 42) 4)) tx oc rl ou tl, q)) rfl (by decide +kernel) rfl rfl rfl (by decide) (by decide) (by decide) (HWa_42 rfl) ?_
  refine RQ.seg 8 (pc' := 32) (L' := [some (.ref 41), some (.ref 31)]) (st' := [.ref 43, .int (iI 0), .ref 43, .int (iI 0), .ref 33]) (g1 := (HW sc (usc ar 42 (cpz (ar 32) (ar 42) 4)) tx oc rl ou tl, q)) rfl ?_
  refine RQ.alen rfl rfl ?_
  refine RQ.acp (n := 3) (f := (ar 33)) (f1 := (ar 43)) (g1 := (HW sc (usc (usc ar 42 (cpz (ar 32) (ar 42) 4)) 43 (cpz (ar 33) (ar 43) 3)) tx oc rl ou tl, q)) rfl (by decide +kernel) rfl rfl rfl (by decide) (by decide) (by decide) (HWa_43 rfl) ?_
  refine RQ.seg 7 (pc' := 48) (L' := [some (.ref 41), some (.ref 31)]) (st' := [.int (iI 10), .int (iI 0), .ref 44, .int (iI 0), .ref 34]) (g1 := (HW sc (usc (usc ar 42 (cpz (ar 32) (ar 42) 4)) 43 (cpz (ar 33) (ar 43) 3)) tx oc rl ou tl, q)) rfl ?_
  refine RQ.acp (n := 10) (f := (ar 34)) (f1 := (ar 44)) (g1 := (HW sc (usc (usc (usc ar 42 (cpz (ar 32) (ar 42) 4)) 43 (cpz (ar 33) (ar 43) 3)) 44 (cpz (ar 34) (ar 44) 10)) tx oc rl ou tl, q)) rfl (by decide +kernel) rfl rfl rfl (by decide) (by decide) (by decide) (HWa_44 rfl) ?_
  refine RQ.seg 7 (pc' := 63) (L' := [some (.ref 41), some (.ref 31)]) (st' := [.int (iI 10), .int (iI 0), .ref 45, .int (iI 0), .ref 35]) (g1 := (HW sc (usc (usc (usc ar 42 (cpz (ar 32) (ar 42) 4)) 43 (cpz (ar 33) (ar 43) 3)) 44 (cpz (ar 34) (ar 44) 10)) tx oc rl ou tl, q)) rfl ?_
  refine RQ.acp (n := 10) (f := (ar 35)) (f1 := (ar 45)) (g1 := (HW sc (usc (usc (usc (usc ar 42 (cpz (ar 32) (ar 42) 4)) 43 (cpz (ar 33) (ar 43) 3)) 44 (cpz (ar 34) (ar 44) 10)) 45 (cpz (ar 35) (ar 45) 10)) tx oc rl ou tl, q)) rfl (by decide +kernel) rfl rfl rfl (by decide) (by decide) (by decide) (HWa_45 rfl) ?_
  refine RQ.seg 7 (pc' := 78) (L' := [some (.ref 41), some (.ref 31)]) (st' := [.int (iI 10), .int (iI 0), .ref 46, .int (iI 0), .ref 36]) (g1 := (HW sc (usc (usc (usc (usc ar 42 (cpz (ar 32) (ar 42) 4)) 43 (cpz (ar 33) (ar 43) 3)) 44 (cpz (ar 34) (ar 44) 10)) 45 (cpz (ar 35) (ar 45) 10)) tx oc rl ou tl, q)) rfl ?_
  refine RQ.acp (n := 10) (f := (ar 36)) (f1 := (ar 46)) (g1 := (HW sc (usc (usc (usc (usc (usc ar 42 (cpz (ar 32) (ar 42) 4)) 43 (cpz (ar 33) (ar 43) 3)) 44 (cpz (ar 34) (ar 44) 10)) 45 (cpz (ar 35) (ar 45) 10)) 46 (cpz (ar 36) (ar 46) 10)) tx oc rl ou tl, q)) rfl (by decide +kernel) rfl rfl rfl (by decide) (by decide) (by decide) (HWa_46 rfl) ?_
  refine RQ.seg 19 (pc' := 116) (L' := [some (.ref 41), some (.ref 31)]) (st' := [.int (iI 3), .int (iI 0), .ref 47, .int (iI 0), .ref 37]) (g1 := (HW (usc (usc (usc sc 4105 (sc 3105)) 4106 (sc 3106)) 4107 (sc 3107)) (usc (usc (usc (usc (usc ar 42 (cpz (ar 32) (ar 42) 4)) 43 (cpz (ar 33) (ar 43) 3)) 44 (cpz (ar 34) (ar 44) 10)) 45 (cpz (ar 35) (ar 45) 10)) 46 (cpz (ar 36) (ar 46) 10)) tx oc rl ou tl, q)) rfl ?_
  refine RQ.acp (n := 3) (f := (ar 37)) (f1 := (ar 47)) (g1 := (HW (usc (usc (usc sc 4105 (sc 3105)) 4106 (sc 3106)) 4107 (sc 3107)) (usc (usc (usc (usc (usc (usc ar 42 (cpz (ar 32) (ar 42) 4)) 43 (cpz (ar 33) (ar 43) 3)) 44 (cpz (ar 34) (ar 44) 10)) 45 (cpz (ar 35) (ar 45) 10)) 46 (cpz (ar 36) (ar 46) 10)) 47 (cpz (ar 37) (ar 47) 3)) tx oc rl ou tl, q)) rfl (by decide +kernel) rfl rfl rfl (by decide) (by decide) (by decide) (HWa_47 rfl) ?_
  refine RQ.seg 7 (pc' := 130) (L' := [some (.ref 41), some (.ref 31)]) (st' := [.int (iI 3), .int (iI 0), .ref 48, .int (iI 0), .ref 38]) (g1 := (HW (usc (usc (usc sc 4105 (sc 3105)) 4106 (sc 3106)) 4107 (sc 3107)) (usc (usc (usc (usc (usc (usc ar 42 (cpz (ar 32) (ar 42) 4)) 43 (cpz (ar 33) (ar 43) 3)) 44 (cpz (ar 34) (ar 44) 10)) 45 (cpz (ar 35) (ar 45) 10)) 46 (cpz (ar 36) (ar 46) 10)) 47 (cpz (ar 37) (ar 47) 3)) tx oc rl ou tl, q)) rfl ?_
  refine RQ.acp (n := 3) (f := (ar 38)) (f1 := (ar 48)) (g1 := (HW (usc (usc (usc sc 4105 (sc 3105)) 4106 (sc 3106)) 4107 (sc 3107)) (usc (usc (usc (usc (usc (usc (usc ar 42 (cpz (ar 32) (ar 42) 4)) 43 (cpz (ar 33) (ar 43) 3)) 44 (cpz (ar 34) (ar 44) 10)) 45 (cpz (ar 35) (ar 45) 10)) 46 (cpz (ar 36) (ar 46) 10)) 47 (cpz (ar 37) (ar 47) 3)) 48 (cpz (ar 38) (ar 48) 3)) tx oc rl ou tl, q)) rfl (by decide +kernel) rfl rfl rfl (by decide) (by decide) (by decide) (HWa_48 rfl) ?_
  refine RQ.seg 8 (pc' := 147) (L' := [some (.ref 41), some (.ref 31)]) (st' := [.ref 49, .int (iI 0), .ref 49, .int (iI 0), .ref 39]) (g1 := (HW (usc (usc (usc sc 4105 (sc 3105)) 4106 (sc 3106)) 4107 (sc 3107)) (usc (usc (usc (usc (usc (usc (usc ar 42 (cpz (ar 32) (ar 42) 4)) 43 (cpz (ar 33) (ar 43) 3)) 44 (cpz (ar 34) (ar 44) 10)) 45 (cpz (ar 35) (ar 45) 10)) 46 (cpz (ar 36) (ar 46) 10)) 47 (cpz (ar 37) (ar 47) 3)) 48 (cpz (ar 38) (ar 48) 3)) tx oc rl ou tl, q)) rfl ?_
  refine RQ.alen rfl rfl ?_
  refine RQ.acp (n := 120) (f := (ar 39)) (f1 := (ar 49)) (g1 := (HW (usc (usc (usc sc 4105 (sc 3105)) 4106 (sc 3106)) 4107 (sc 3107)) (usc (usc (usc (usc (usc (usc (usc (usc ar 42 (cpz (ar 32) (ar 42) 4)) 43 (cpz (ar 33) (ar 43) 3)) 44 (cpz (ar 34) (ar 44) 10)) 45 (cpz (ar 35) (ar 45) 10)) 46 (cpz (ar 36) (ar 46) 10)) 47 (cpz (ar 37) (ar 47) 3)) 48 (cpz (ar 38) (ar 48) 3)) 49 (cpz (ar 39) (ar 49) 120)) tx oc rl ou tl, q)) rfl (by decide +kernel) rfl rfl rfl (by decide) (by decide) (by decide) (HWa_49 rfl) ?_
  refine RQ.seg 8 (pc' := 165) (L' := [some (.ref 41), some (.ref 31)]) (st' := [.ref 50, .int (iI 0), .ref 50, .int (iI 0), .ref 40]) (g1 := (HW (usc (usc (usc sc 4105 (sc 3105)) 4106 (sc 3106)) 4107 (sc 3107)) (usc (usc (usc (usc (usc (usc (usc (usc ar 42 (cpz (ar 32) (ar 42) 4)) 43 (cpz (ar 33) (ar 43) 3)) 44 (cpz (ar 34) (ar 44) 10)) 45 (cpz (ar 35) (ar 45) 10)) 46 (cpz (ar 36) (ar 46) 10)) 47 (cpz (ar 37) (ar 47) 3)) 48 (cpz (ar 38) (ar 48) 3)) 49 (cpz (ar 39) (ar 49) 120)) tx oc rl ou tl, q)) rfl ?_
  refine RQ.alen rfl rfl ?_
  refine RQ.acp (n := 120) (f := (ar 40)) (f1 := (ar 50)) (g1 := (HW (usc (usc (usc sc 4105 (sc 3105)) 4106 (sc 3106)) 4107 (sc 3107)) (usc (usc (usc (usc (usc (usc (usc (usc (usc ar 42 (cpz (ar 32) (ar 42) 4)) 43 (cpz (ar 33) (ar 43) 3)) 44 (cpz (ar 34) (ar 44) 10)) 45 (cpz (ar 35) (ar 45) 10)) 46 (cpz (ar 36) (ar 46) 10)) 47 (cpz (ar 37) (ar 47) 3)) 48 (cpz (ar 38) (ar 48) 3)) 49 (cpz (ar 39) (ar 49) 120)) 50 (cpz (ar 40) (ar 50) 120)) tx oc rl ou tl, q)) rfl (by decide +kernel) rfl rfl rfl (by decide) (by decide) (by decide) (HWa_50 rfl) ?_
  refine RQ.ret rfl rfl ?_
  exact ⟨rfl, rfl⟩
theorem x_copyB {K : PK} {d : Nat} {sc : Nat → Int} {ar : Nat → Int → Int} {tx oc : Nat} {rl : Nat → Option Nat} {ou : Nat → Int64} {tl : List PO} {q : Nat × Nat}  : CallR K (d + 1) 100 [.ref 31, .ref 41] (HW sc ar tx oc rl ou tl, q) none (HW (usc (usc (usc sc 3105 (sc 4105)) 3106 (sc 4106)) 3107 (sc 4107)) (usc (usc (usc (usc (usc (usc (usc (usc (usc ar 32 (cpz (ar 42) (ar 32) 4)) 33 (cpz (ar 43) (ar 33) 3)) 34 (cpz (ar 44) (ar 34) 10)) 35 (cpz (ar 45) (ar 35) 10)) 36 (cpz (ar 46) (ar 36) 10)) 37 (cpz (ar 47) (ar 37) 3)) 38 (cpz (ar 48) (ar 38) 3)) 39 (cpz (ar 49) (ar 39) 120)) 40 (cpz (ar 50) (ar 40) 120)) tx oc rl ou tl, q) := by
  apply CQ.x
  refine CQ.of (own := 8) (n := 2) (ini := false) (rt := none) (cd := cd100) (by decide +kernel) rfl (by decide +kernel) rfl (Nat.le_of_ble_eq_true rfl) ?_
  refine RQ.seg 8 (pc' := 14) (L' := [some (.ref 31), some (.ref 41)]) (st' := [.ref 32, .int (iI 0), .ref 32, .int (iI 0), .ref 42]) (g1 := (HW sc ar tx oc rl ou tl, q)) rfl ?_
  refine RQ.alen rfl rfl ?_
  refine RQ.acp (n := 4) (f := (ar 42)) (f1 := (ar 32)) (g1 := (HW sc (usc ar 32 (cpz (ar 42) (ar 32) 4)) tx oc rl ou tl, q)) rfl (by decide +kernel) rfl rfl rfl (by decide) (by decide) (by decide) (HWa_32 rfl) ?_
  refine RQ.seg 8 (pc' := 32) (L' := [some (.ref 31), some (.ref 41)]) (st' := [.ref 33, .int (iI 0), .ref 33, .int (iI 0), .ref 43]) (g1 := (HW sc (usc ar 32 (cpz (ar 42) (ar 32) 4)) tx oc rl ou tl, q)) rfl ?_
  refine RQ.alen rfl rfl ?_
  refine RQ.acp (n := 3) (f := (ar 43)) (f1 := (ar 33)) (g1 := (HW sc (usc (usc ar 32 (cpz (ar 42) (ar 32) 4)) 33 (cpz (ar 43) (ar 33) 3)) tx oc rl ou tl, q)) rfl (by decide +kernel) rfl rfl rfl (by decide) (by decide) (by decide) (HWa_33 rfl) ?_
  refine RQ.seg 7 (pc' := 48) (L' := [some (.ref 31), some (.ref 41)]) (st' := [.int (iI 10), .int (iI 0), .ref 34, .int (iI 0), .ref 44]) (g1 := (HW sc (usc (usc ar 32 (cpz (ar 42) (ar 32) 4)) 33 (cpz (ar 43) (ar 33) 3)) tx oc rl ou tl, q)) rfl ?_
  refine RQ.acp (n := 10) (f := (ar 44)) (f1 := (ar 34)) (g1 := (HW sc (usc (usc (usc ar 32 (cpz (ar 42) (ar 32) 4)) 33 (cpz (ar 43) (ar 33) 3)) 34 (cpz (ar 44) (ar 34) 10)) tx oc rl ou tl, q)) rfl (by decide +kernel) rfl rfl rfl (by decide) (by decide) (by decide) (HWa_34 rfl) ?_
  refine RQ.seg 7 (pc' := 63) (L' := [some (.ref 31), some (.ref 41)]) (st' := [.int (iI 10), .int (iI 0), .ref 35, .int (iI 0), .ref 45]) (g1 := (HW sc (usc (usc (usc ar 32 (cpz (ar 42) (ar 32) 4)) 33 (cpz (ar 43) (ar 33) 3)) 34 (cpz (ar 44) (ar 34) 10)) tx oc rl ou tl, q)) rfl ?_
  refine RQ.acp (n := 10) (f := (ar 45)) (f1 := (ar 35)) (g1 := (HW sc (usc (usc (usc (usc ar 32 (cpz (ar 42) (ar 32) 4)) 33 (cpz (ar 43) (ar 33) 3)) 34 (cpz (ar 44) (ar 34) 10)) 35 (cpz (ar 45) (ar 35) 10)) tx oc rl ou tl, q)) rfl (by decide +kernel) rfl rfl rfl (by decide) (by decide) (by decide) (HWa_35 rfl) ?_
  refine RQ.seg 7 (pc' := 78) (L' := [some (.ref 31), some (.ref 41)]) (st' := [.int (iI 10), .int (iI 0), .ref 36, .int (iI 0), .ref 46]) (g1 := (HW sc (usc (usc (usc (usc ar 32 (cpz (ar 42) (ar 32) 4)) 33 (cpz (ar 43) (ar 33) 3)) 34 (cpz (ar 44) (ar 34) 10)) 35 (cpz (ar 45) (ar 35) 10)) tx oc rl ou tl, q)) rfl ?_
  refine RQ.acp (n := 10) (f := (ar 46)) (f1 := (ar 36)) (g1 := (HW sc (usc (usc (usc (usc (usc ar 32 (cpz (ar 42) (ar 32) 4)) 33 (cpz (ar 43) (ar 33) 3)) 34 (cpz (ar 44) (ar 34) 10)) 35 (cpz (ar 45) (ar 35) 10)) 36 (cpz (ar 46) (ar 36) 10)) tx oc rl ou tl, q)) rfl (by decide +kernel) rfl rfl rfl (by decide) (by decide) (by decide) (HWa_36 rfl) ?_
  refine RQ.seg 19 (pc' := 116) (L' := [some (.ref 31), some (.ref 41)]) (st' := [.int (iI 3), .int (iI 0), .ref 37, .int (iI 0), .ref 47]) (g1 := (HW (usc (usc (usc sc 3105 (sc 4105)) 3106 (sc 4106)) 3107 (sc 4107)) (usc (usc (usc (usc (usc ar 32 (cpz (ar 42) (ar 32) 4)) 33 (cpz (ar 43) (ar 33) 3)) 34 (cpz (ar 44) (ar 34) 10)) 35 (cpz (ar 45) (ar 35) 10)) 36 (cpz (ar 46) (ar 36) 10)) tx oc rl ou tl, q)) rfl ?_
  refine RQ.acp (n := 3) (f := (ar 47)) (f1 := (ar 37)) (g1 := (HW (usc (usc (usc sc 3105 (sc 4105)) 3106 (sc 4106)) 3107 (sc 4107)) (usc (usc (usc (usc (usc (usc ar 32 (cpz (ar 42) (ar 32) 4)) 33 (cpz (ar 43) (ar 33) 3)) 34 (cpz (ar 44) (ar 34) 10)) 35 (cpz (ar 45) (ar 35) 10)) 36 (cpz (ar 46) (ar 36) 10)) 37 (cpz (ar 47) (ar 37) 3)) tx oc rl ou tl, q)) rfl (by decide +kernel) rfl rfl rfl (by decide) (by decide) (by decide) (HWa_37 rfl) ?_
  refine RQ.seg 7 (pc' := 130) (L' := [some (.ref 31), some (.ref 41)]) (st' := [.int (iI 3), .int (iI 0), .ref 38, .int (iI 0), .ref 48]) (g1 := (HW (usc (usc (usc sc 3105 (sc 4105)) 3106 (sc 4106)) 3107 (sc 4107)) (usc (usc (usc (usc (usc (usc ar 32 (cpz (ar 42) (ar 32) 4)) 33 (cpz (ar 43) (ar 33) 3)) 34 (cpz (ar 44) (ar 34) 10)) 35 (cpz (ar 45) (ar 35) 10)) 36 (cpz (ar 46) (ar 36) 10)) 37 (cpz (ar 47) (ar 37) 3)) tx oc rl ou tl, q)) rfl ?_
  refine RQ.acp (n := 3) (f := (ar 48)) (f1 := (ar 38)) (g1 := (HW (usc (usc (usc sc 3105 (sc 4105)) 3106 (sc 4106)) 3107 (sc 4107)) (usc (usc (usc (usc (usc (usc (usc ar 32 (cpz (ar 42) (ar 32) 4)) 33 (cpz (ar 43) (ar 33) 3)) 34 (cpz (ar 44) (ar 34) 10)) 35 (cpz (ar 45) (ar 35) 10)) 36 (cpz (ar 46) (ar 36) 10)) 37 (cpz (ar 47) (ar 37) 3)) 38 (cpz (ar 48) (ar 38) 3)) tx oc rl ou tl, q)) rfl (by decide +kernel) rfl rfl rfl (by decide) (by decide) (by decide) (HWa_38 rfl) ?_
  refine RQ.seg 8 (pc' := 147) (L' := [some (.ref 31), some (.ref 41)]) (st' := [.ref 39, .int (iI 0), .ref 39, .int (iI 0), .ref 49]) (g1 := (HW (usc (usc (usc sc 3105 (sc 4105)) 3106 (sc 4106)) 3107 (sc 4107)) (usc (usc (usc (usc (usc (usc (usc ar 32 (cpz (ar 42) (ar 32) 4)) 33 (cpz (ar 43) (ar 33) 3)) 34 (cpz (ar 44) (ar 34) 10)) 35 (cpz (ar 45) (ar 35) 10)) 36 (cpz (ar 46) (ar 36) 10)) 37 (cpz (ar 47) (ar 37) 3)) 38 (cpz (ar 48) (ar 38) 3)) tx oc rl ou tl, q)) rfl ?_
  refine RQ.alen rfl rfl ?_
  refine RQ.acp (n := 120) (f := (ar 49)) (f1 := (ar 39)) (g1 := (HW (usc (usc (usc sc 3105 (sc 4105)) 3106 (sc 4106)) 3107 (sc 4107)) (usc (usc (usc (usc (usc (usc (usc (usc ar 32 (cpz (ar 42) (ar 32) 4)) 33 (cpz (ar 43) (ar 33) 3)) 34 (cpz (ar 44) (ar 34) 10)) 35 (cpz (ar 45) (ar 35) 10)) 36 (cpz (ar 46) (ar 36) 10)) 37 (cpz (ar 47) (ar 37) 3)) 38 (cpz (ar 48) (ar 38) 3)) 39 (cpz (ar 49) (ar 39) 120)) tx oc rl ou tl, q)) rfl (by decide +kernel) rfl rfl rfl (by decide) (by decide) (by decide) (HWa_39 rfl) ?_
  refine RQ.seg 8 (pc' := 165) (L' := [some (.ref 31), some (.ref 41)]) (st' := [.ref 40, .int (iI 0), .ref 40, .int (iI 0), .ref 50]) (g1 := (HW (usc (usc (usc sc 3105 (sc 4105)) 3106 (sc 4106)) 3107 (sc 4107)) (usc (usc (usc (usc (usc (usc (usc (usc ar 32 (cpz (ar 42) (ar 32) 4)) 33 (cpz (ar 43) (ar 33) 3)) 34 (cpz (ar 44) (ar 34) 10)) 35 (cpz (ar 45) (ar 35) 10)) 36 (cpz (ar 46) (ar 36) 10)) 37 (cpz (ar 47) (ar 37) 3)) 38 (cpz (ar 48) (ar 38) 3)) 39 (cpz (ar 49) (ar 39) 120)) tx oc rl ou tl, q)) rfl ?_
  refine RQ.alen rfl rfl ?_
  refine RQ.acp (n := 120) (f := (ar 50)) (f1 := (ar 40)) (g1 := (HW (usc (usc (usc sc 3105 (sc 4105)) 3106 (sc 4106)) 3107 (sc 4107)) (usc (usc (usc (usc (usc (usc (usc (usc (usc ar 32 (cpz (ar 42) (ar 32) 4)) 33 (cpz (ar 43) (ar 33) 3)) 34 (cpz (ar 44) (ar 34) 10)) 35 (cpz (ar 45) (ar 35) 10)) 36 (cpz (ar 46) (ar 36) 10)) 37 (cpz (ar 47) (ar 37) 3)) 38 (cpz (ar 48) (ar 38) 3)) 39 (cpz (ar 49) (ar 39) 120)) 40 (cpz (ar 50) (ar 40) 120)) tx oc rl ou tl, q)) rfl (by decide +kernel) rfl rfl rfl (by decide) (by decide) (by decide) (HWa_40 rfl) ?_
  refine RQ.ret rfl rfl ?_
  exact ⟨rfl, rfl⟩
theorem x_image {K : PK} {d : Nat} {sc : Nat → Int} {ar : Nat → Int → Int} {tx oc : Nat} {rl : Nat → Option Nat} {ou : Nat → Int64} {tl : List PO} {q : Nat × Nat} {nw nb : Int} {W B : Int → Int → Int} (hF : FrOK nw nb W B) (hX : FrX (sc 303) (sc 304) (ar 5) (ar 6) (ar 7) (ar 8) (ar 10) (ar 11) (ar 12) nw nb W B) {Z : SS} (hS : SeOK nb Z) (hZ : SeX Z sc ar) : CQ K (d + 2) 134 [.ref 0] (HW sc ar tx oc rl ou tl, q) (fun r g' => r = some (.int (iI (if 0 < nb then dN (zD Z) else -1))) ∧ ∃ sc' ar', g' = (HW sc' ar' tx oc rl ou tl, q) ∧ Same [8, 4105, 4106, 4107] sc sc' ∧ Same [42, 43, 44, 45, 46, 47, 48, 49, 50] ar ar' ∧ (0 < nb → sc' 8 = 1 ∧ SeI Z sc' ar') ∧ (¬ 0 < nb → sc' = sc ∧ ar' = ar)) := by
  have hn := hF.1
  have hm1 := hX.1
  have hm2 := hX.2.1
  have hz := hS.2.1
  have hO := hS.2.2
  refine CQ.of (own := 10) (n := 1) (ini := false) (rt := (some .int)) (cd := cd134) (by decide +kernel) rfl (by decide +kernel) rfl (Nat.le_of_ble_eq_true rfl) ?_
  refine RQ.seg 2 (pc' := 4) (L' := [some (.ref 0)]) (st' := [.ref 3]) (g1 := (HW sc ar tx oc rl ou tl, q)) rfl ?_
  rcases Decidable.em (0 < nb) with h1 | h1
  · skip
    refine RQ.call rfl rfl (x_standsN_t hX hF h1) ?_
    refine RQ.seg 5 (pc' := 20) (L' := [some (.ref 0)]) (st' := [.ref 31, .ref 41]) (g1 := (HW sc ar tx oc rl ou tl, q)) rfl ?_
    refine RQ.call rfl rfl x_copyI ?_
    refine RQ.seg 6 (pc' := 35) (L' := [some (.ref 0)]) (st' := [.int (iI (sc 3106))]) (g1 := (HW (usc (usc (usc (usc sc 8 1) 4105 (sc 3105)) 4106 (sc 3106)) 4107 (sc 3107)) (usc (usc (usc (usc (usc (usc (usc (usc (usc ar 42 (cpz (ar 32) (ar 42) 4)) 43 (cpz (ar 33) (ar 43) 3)) 44 (cpz (ar 34) (ar 44) 10)) 45 (cpz (ar 35) (ar 45) 10)) 46 (cpz (ar 36) (ar 46) 10)) 47 (cpz (ar 37) (ar 47) 3)) 48 (cpz (ar 38) (ar 48) 3)) 49 (cpz (ar 39) (ar 49) 120)) 50 (cpz (ar 40) (ar 50) 120)) tx oc rl ou tl, q)) rfl ?_
    refine RQ.ret rfl rfl ?_
    rw [if_pos (by omega)]
    exact ⟨by rw [show sc 3106 = dN (zD Z) from hZ.2.1], _, _, rfl, (by repeat (first | exact Same.rf | refine Same.us rfl ?_)), (by repeat (first | exact Same.rf | refine Same.us rfl ?_)), fun _ => ⟨rfl, ⟨SeO.cp hz rfl (fun j _ h => cpz_l h) (fun j _ h => cpz_l h) (fun j _ h => cpz_l h) (fun j _ h => cpz_l h) (fun j _ h => cpz_l h) hZ.1, NtA.cp hO rfl rfl (fun j _ h => cpz_l h) (fun j _ h => cpz_l h) (fun j _ h => cpz_l h) (fun j _ h => cpz_l h) hZ.2⟩⟩, fun z => absurd (by omega) z⟩
  · skip
    refine RQ.call rfl rfl (x_standsN_f hX hF h1) ?_
    refine RQ.seg 2 (pc' := 11) (L' := [some (.ref 0)]) (st' := [.int (iI (-1))]) (g1 := (HW sc ar tx oc rl ou tl, q)) rfl ?_
    refine RQ.ret rfl rfl ?_
    rw [if_neg (by omega)]
    exact ⟨rfl, _, _, rfl, Same.rf, Same.rf, fun z => absurd z (by omega), fun _ => ⟨rfl, rfl⟩⟩
theorem x_eforget {K : PK} {d : Nat} {sc : Nat → Int} {ar : Nat → Int → Int} {tx oc : Nat} {rl : Nat → Option Nat} {ou : Nat → Int64} {tl : List PO} {q : Nat × Nat}  : CallR K (d + 1) 10 [.ref 77] (HW sc ar tx oc rl ou tl, q) none (HW (usc sc 7703 0) ar tx oc rl ou tl, q) := by
  apply CQ.x
  refine CQ.of (own := 1) (n := 1) (ini := false) (rt := none) (cd := cd10) (by decide +kernel) rfl (by decide +kernel) rfl (Nat.le_of_ble_eq_true rfl) ?_
  refine RQ.seg 3 (pc' := 5) (L' := [some (.ref 77)]) (st' := []) (g1 := (HW (usc sc 7703 0) ar tx oc rl ou tl, q)) rfl ?_
  refine RQ.ret rfl rfl ?_
  exact ⟨rfl, rfl⟩
theorem x_back {K : PK} {d : Nat} {sc : Nat → Int} {ar : Nat → Int → Int} {tx oc : Nat} {rl : Nat → Option Nat} {ou : Nat → Int64} {tl : List PO} {q : Nat × Nat} {nb : Int} {Z : SS} (hk : 0 ≤ sc 8 ∧ sc 8 ≤ 1) (hS : SeOK nb Z) (hZi : sc 8 = 1 → SeI Z sc ar) : CQ K (d + 2) 135 [.ref 0] (HW sc ar tx oc rl ou tl, q) (fun r g' => r = some (.int (iI (if sc 8 = 1 then dN (zD Z) else -1))) ∧ ∃ sc' ar', g' = (HW sc' ar' tx oc rl ou tl, q) ∧ Same [3105, 3106, 3107, 7205, 7206, 7207, 7703] sc sc' ∧ Same [32, 33, 34, 35, 36, 37, 38, 39, 40] ar ar' ∧ (sc 8 = 1 → SeX Z sc' ar' ∧ sc' 7205 = 0 ∧ sc' 7206 = 0 ∧ sc' 7207 = 0 ∧ sc' 7703 = 0) ∧ (¬ sc 8 = 1 → sc' = sc ∧ ar' = ar)) := by
  have hz := hS.2.1
  have hO := hS.2.2
  refine CQ.of (own := 10) (n := 1) (ini := false) (rt := (some .int)) (cd := cd135) (by decide +kernel) rfl (by decide +kernel) rfl (Nat.le_of_ble_eq_true rfl) ?_
  refine RQ.seg 2 (pc' := 4) (L' := [some (.ref 0)]) (st' := [.int (iI (sc 8))]) (g1 := (HW sc ar tx oc rl ou tl, q)) rfl ?_
  refine RQ.if1 (a := (sc 8)) rfl rfl rfl (by omega) (fun (h1 : sc 8 ≠ 0) => ?_) (fun (h1 : ¬ sc 8 ≠ 0) => ?_)
  · skip
    refine RQ.seg 4 (pc' := 17) (L' := [some (.ref 0)]) (st' := [.ref 41, .ref 31]) (g1 := (HW sc ar tx oc rl ou tl, q)) rfl ?_
    refine RQ.call rfl rfl x_copyB ?_
    refine RQ.seg 2 (pc' := 24) (L' := [some (.ref 0)]) (st' := [.ref 72]) (g1 := (HW (usc (usc (usc sc 3105 (sc 4105)) 3106 (sc 4106)) 3107 (sc 4107)) (usc (usc (usc (usc (usc (usc (usc (usc (usc ar 32 (cpz (ar 42) (ar 32) 4)) 33 (cpz (ar 43) (ar 33) 3)) 34 (cpz (ar 44) (ar 34) 10)) 35 (cpz (ar 45) (ar 35) 10)) 36 (cpz (ar 46) (ar 36) 10)) 37 (cpz (ar 47) (ar 37) 3)) 38 (cpz (ar 48) (ar 38) 3)) 39 (cpz (ar 49) (ar 39) 120)) 40 (cpz (ar 50) (ar 40) 120)) tx oc rl ou tl, q)) rfl ?_
    refine RQ.call rfl rfl x_rforget ?_
    refine RQ.seg 2 (pc' := 31) (L' := [some (.ref 0)]) (st' := [.ref 77]) (g1 := (HW (usc (usc (usc (usc (usc (usc sc 3105 (sc 4105)) 3106 (sc 4106)) 3107 (sc 4107)) 7205 0) 7206 0) 7207 0) (usc (usc (usc (usc (usc (usc (usc (usc (usc ar 32 (cpz (ar 42) (ar 32) 4)) 33 (cpz (ar 43) (ar 33) 3)) 34 (cpz (ar 44) (ar 34) 10)) 35 (cpz (ar 45) (ar 35) 10)) 36 (cpz (ar 46) (ar 36) 10)) 37 (cpz (ar 47) (ar 37) 3)) 38 (cpz (ar 48) (ar 38) 3)) 39 (cpz (ar 49) (ar 39) 120)) 40 (cpz (ar 50) (ar 40) 120)) tx oc rl ou tl, q)) rfl ?_
    refine RQ.call rfl rfl x_eforget ?_
    refine RQ.seg 3 (pc' := 41) (L' := [some (.ref 0)]) (st' := [.int (iI (sc 4106))]) (g1 := (HW (usc (usc (usc (usc (usc (usc (usc sc 3105 (sc 4105)) 3106 (sc 4106)) 3107 (sc 4107)) 7205 0) 7206 0) 7207 0) 7703 0) (usc (usc (usc (usc (usc (usc (usc (usc (usc ar 32 (cpz (ar 42) (ar 32) 4)) 33 (cpz (ar 43) (ar 33) 3)) 34 (cpz (ar 44) (ar 34) 10)) 35 (cpz (ar 45) (ar 35) 10)) 36 (cpz (ar 46) (ar 36) 10)) 37 (cpz (ar 47) (ar 37) 3)) 38 (cpz (ar 48) (ar 38) 3)) 39 (cpz (ar 49) (ar 39) 120)) 40 (cpz (ar 50) (ar 40) 120)) tx oc rl ou tl, q)) rfl ?_
    refine RQ.ret rfl rfl ?_
    rw [if_pos (by omega)]
    have hZ := hZi (by omega)
    exact ⟨by rw [show sc 4106 = dN (zD Z) from hZ.2.1], _, _, rfl, (by repeat (first | exact Same.rf | refine Same.us rfl ?_)), (by repeat (first | exact Same.rf | refine Same.us rfl ?_)), fun _ => ⟨⟨SeO.cp hz rfl (fun j _ h => cpz_l h) (fun j _ h => cpz_l h) (fun j _ h => cpz_l h) (fun j _ h => cpz_l h) (fun j _ h => cpz_l h) hZ.1, NtA.cp hO rfl rfl (fun j _ h => cpz_l h) (fun j _ h => cpz_l h) (fun j _ h => cpz_l h) (fun j _ h => cpz_l h) hZ.2⟩, rfl, rfl, rfl, rfl⟩, fun z => absurd (by omega) z⟩
  · skip
    refine RQ.seg 1 (pc' := 8) (L' := [some (.ref 0)]) (st' := [.int (iI (-1))]) (g1 := (HW sc ar tx oc rl ou tl, q)) rfl ?_
    refine RQ.ret rfl rfl ?_
    rw [if_neg (by omega)]
    exact ⟨rfl, _, _, rfl, Same.rf, Same.rf, fun z => absurd z (by omega), fun _ => ⟨rfl, rfl⟩⟩
theorem m_keep91_l {K : PK} {d : Nat} {sc : Nat → Int} {ar : Nat → Int → Int} {tx oc : Nat} {rl : Nat → Option Nat} {ou : Nat → Int64} {tl : List PO} {q : Nat × Nat} {Q : Option Value → PG → Prop} (hp : 0 ≤ sc 8064 ∧ sc 8064 + 3 ≤ 286) (hk : ∀ f : Int → Int, (∀ k, 0 ≤ k → k < 286 → f k = (if sc 8064 ≤ k ∧ k < sc 8064 + 3 then ar 91 (k - sc 8064) else ar 116 k)) → Q none (HW (usc sc 8064 (sc 8064 + 3)) (usc ar 116 f) tx oc rl ou tl, q)) : ∀ (m : Nat) (i : Int) (f : Int → Int) (hm : 0 ≤ i ∧ i + m = 3) (hf : (∀ k, 0 ≤ k → k < 286 → f k = (if sc 8064 ≤ k ∧ k < sc 8064 + i then ar 91 (k - sc 8064) else ar 116 k))), RQ K (d + 0) 11 false none cd231 2 [some (.ref 80), some (.ref 91), some (.int (iI i))] [] (HW (usc sc 8064 (sc 8064 + i)) (usc ar 116 f) tx oc rl ou tl, q) Q
  | 0, i, f, hm, hf => by
    refine RQ.seg 2 (pc' := 4) (L' := [some (.ref 80), some (.ref 91), some (.int (iI i))]) (st' := [.ref 91, .int (iI i)]) (g1 := (HW (usc sc 8064 (sc 8064 + i)) (usc ar 116 f) tx oc rl ou tl, q)) rfl ?_
    refine RQ.alen rfl rfl ?_
    refine RQ.if2 (a := i) (b := 3) rfl rfl rfl rfl (by omega) (by omega) (fun _ => ?_) (fun (q : ¬ 3 ≤ i) => absurd (show 3 ≤ i from by omega) q)
    refine RQ.ret rfl rfl ?_
    obtain rfl : i = 3 := by omega
    exact hk f hf
  | m + 1, i, f, hm, hf => by
    refine RQ.seg 2 (pc' := 4) (L' := [some (.ref 80), some (.ref 91), some (.int (iI i))]) (st' := [.ref 91, .int (iI i)]) (g1 := (HW (usc sc 8064 (sc 8064 + i)) (usc ar 116 f) tx oc rl ou tl, q)) rfl ?_
    refine RQ.alen rfl rfl ?_
    refine RQ.if2 (a := i) (b := 3) rfl rfl rfl rfl (by omega) (by omega) (fun (q : 3 ≤ i) => absurd q (show ¬ 3 ≤ i from by omega)) (fun _ => ?_)
    refine RQ.seg 6 (pc' := 18) (L' := [some (.ref 80), some (.ref 91), some (.int (iI i))]) (st' := [.int (iI i), .ref 91, .int (iI (sc 8064 + i)), .ref 116]) (g1 := (HW (usc sc 8064 (sc 8064 + i)) (usc ar 116 f) tx oc rl ou tl, q)) rfl ?_
    refine RQ.iald (z := i) rfl rfl rfl (by omega) (by decide) ?_
    refine RQ.iast (z := (sc 8064 + i)) (v := ((ar 91) i)) (g1 := (HW (usc sc 8064 (sc 8064 + i)) (usc ar 116 (usz f (sc 8064 + i) ((ar 91) i))) tx oc rl ou tl, q)) rfl rfl rfl rfl (by omega) (by decide) (HWa_116 (by funext j; unfold usc; cases hb : Nat.beq j 116 <;> first | rfl | (rw [Nat.eq_of_beq_eq_true hb]; rfl))) ?_
    refine RQ.seg 5 (pc' := 27) (L' := [some (.ref 80), some (.ref 91), some (.int (iI i))]) (st' := [.int ((iI (sc 8064 + i)) + (iI 1)), .ref 80]) (g1 := (HW (usc sc 8064 (sc 8064 + i)) (usc ar 116 (usz f (sc 8064 + i) ((ar 91) i))) tx oc rl ou tl, q)) rfl ?_
    refine RQ.to (L' := [some (.ref 80), some (.ref 91), some (.int (iI i))]) (st' := [.int (iI (sc 8064 + i + 1)), .ref 80]) rfl (by simp only [iI_add, iI_sub, iI_mul, iI_neg]) ?_
    refine RQ.seg 3 (pc' := 2) (L' := [some (.ref 80), some (.ref 91), some (.int ((iI i) + (iI 1)))]) (st' := []) (g1 := (HW (usc sc 8064 (sc 8064 + i + 1)) (usc ar 116 (usz f (sc 8064 + i) ((ar 91) i))) tx oc rl ou tl, q)) rfl ?_
    refine RQ.to (L' := [some (.ref 80), some (.ref 91), some (.int (iI (i + 1)))]) (st' := []) (by simp only [iI_add, iI_sub, iI_mul, iI_neg]) rfl ?_
    rw [show sc 8064 + i + 1 = sc 8064 + (i + 1) by omega]
    refine m_keep91_l hp hk m (i + 1) _ (by omega) (fun k k0 k1 => ?_)
    by_cases e : k = sc 8064 + i
    · subst e; rw [usz_s, if_pos (by omega), show sc 8064 + i - sc 8064 = i by omega]
    · rw [usz_n e, hf k k0 k1]; by_cases e2 : sc 8064 ≤ k ∧ k < sc 8064 + i
      · rw [if_pos e2, if_pos (by omega)]
      · rw [if_neg e2, if_neg (by omega)]
theorem m_keep91 {K : PK} {d : Nat} {sc : Nat → Int} {ar : Nat → Int → Int} {tx oc : Nat} {rl : Nat → Option Nat} {ou : Nat → Int64} {tl : List PO} {q : Nat × Nat} (hp : 0 ≤ sc 8064 ∧ sc 8064 + 3 ≤ 286) : CQ K (d + 1) 231 [.ref 80, .ref 91] (HW sc ar tx oc rl ou tl, q) (fun r g' => r = none ∧ ∃ f, g' = (HW (usc sc 8064 (sc 8064 + 3)) (usc ar 116 f) tx oc rl ou tl, q) ∧ (∀ k, 0 ≤ k → k < 286 → f k = (if sc 8064 ≤ k ∧ k < sc 8064 + 3 then ar 91 (k - sc 8064) else ar 116 k))) := by
  refine CQ.of (own := 11) (n := 3) (ini := false) (rt := none) (cd := cd231) (by decide +kernel) rfl (by decide +kernel) rfl (Nat.le_of_ble_eq_true rfl) ?_
  refine RQ.seg 2 (pc' := 2) (L' := [some (.ref 80), some (.ref 91), some (.int (iI 0))]) (st' := []) (g1 := (HW sc ar tx oc rl ou tl, q)) rfl ?_
  refine RQ.hp (g1 := (HW (usc sc 8064 (sc 8064 + 0)) (usc ar 116 (ar 116)) tx oc rl ou tl, q)) (HW_e (by rw [Int.add_zero]; exact (usc_id sc 8064).symm) (usc_id ar 116).symm) ?_
  exact m_keep91_l hp (fun f hf => ⟨rfl, f, rfl, hf⟩) 3 0 (ar 116) (by omega) (fun k k0 k1 => (if_neg (by omega)).symm)
theorem m_bring91_l {K : PK} {d : Nat} {sc : Nat → Int} {ar : Nat → Int → Int} {tx oc : Nat} {rl : Nat → Option Nat} {ou : Nat → Int64} {tl : List PO} {q : Nat × Nat} {Q : Option Value → PG → Prop} (hp : 0 ≤ sc 8064 ∧ sc 8064 + 3 ≤ 286) (hk : ∀ f : Int → Int, (∀ k, 0 ≤ k → k < 3 → f k = ar 116 (sc 8064 + k)) → Q none (HW (usc sc 8064 (sc 8064 + 3)) (usc ar 91 f) tx oc rl ou tl, q)) : ∀ (m : Nat) (i : Int) (f : Int → Int) (hm : 0 ≤ i ∧ i + m = 3) (hf : (∀ k, 0 ≤ k → k < i → f k = ar 116 (sc 8064 + k))), RQ K (d + 0) 11 false none cd232 2 [some (.ref 80), some (.ref 91), some (.int (iI i))] [] (HW (usc sc 8064 (sc 8064 + i)) (usc ar 91 f) tx oc rl ou tl, q) Q
  | 0, i, f, hm, hf => by
    refine RQ.seg 2 (pc' := 4) (L' := [some (.ref 80), some (.ref 91), some (.int (iI i))]) (st' := [.ref 91, .int (iI i)]) (g1 := (HW (usc sc 8064 (sc 8064 + i)) (usc ar 91 f) tx oc rl ou tl, q)) rfl ?_
    refine RQ.alen rfl rfl ?_
    refine RQ.if2 (a := i) (b := 3) rfl rfl rfl rfl (by omega) (by omega) (fun _ => ?_) (fun (q : ¬ 3 ≤ i) => absurd (show 3 ≤ i from by omega) q)
    refine RQ.ret rfl rfl ?_
    obtain rfl : i = 3 := by omega
    exact hk f hf
  | m + 1, i, f, hm, hf => by
    refine RQ.seg 2 (pc' := 4) (L' := [some (.ref 80), some (.ref 91), some (.int (iI i))]) (st' := [.ref 91, .int (iI i)]) (g1 := (HW (usc sc 8064 (sc 8064 + i)) (usc ar 91 f) tx oc rl ou tl, q)) rfl ?_
    refine RQ.alen rfl rfl ?_
    refine RQ.if2 (a := i) (b := 3) rfl rfl rfl rfl (by omega) (by omega) (fun (q : 3 ≤ i) => absurd q (show ¬ 3 ≤ i from by omega)) (fun _ => ?_)
    refine RQ.seg 6 (pc' := 18) (L' := [some (.ref 80), some (.ref 91), some (.int (iI i))]) (st' := [.int (iI (sc 8064 + i)), .ref 116, .int (iI i), .ref 91]) (g1 := (HW (usc sc 8064 (sc 8064 + i)) (usc ar 91 f) tx oc rl ou tl, q)) rfl ?_
    refine RQ.iald (z := (sc 8064 + i)) rfl rfl rfl (by omega) (by decide) ?_
    refine RQ.iast (z := i) (v := ((ar 116) (sc 8064 + i))) (g1 := (HW (usc sc 8064 (sc 8064 + i)) (usc ar 91 (usz f i ((ar 116) (sc 8064 + i)))) tx oc rl ou tl, q)) rfl rfl rfl rfl (by omega) (by decide) (HWa_91 (by funext j; unfold usc; cases hb : Nat.beq j 91 <;> first | rfl | (rw [Nat.eq_of_beq_eq_true hb]; rfl))) ?_
    refine RQ.seg 5 (pc' := 27) (L' := [some (.ref 80), some (.ref 91), some (.int (iI i))]) (st' := [.int ((iI (sc 8064 + i)) + (iI 1)), .ref 80]) (g1 := (HW (usc sc 8064 (sc 8064 + i)) (usc ar 91 (usz f i ((ar 116) (sc 8064 + i)))) tx oc rl ou tl, q)) rfl ?_
    refine RQ.to (L' := [some (.ref 80), some (.ref 91), some (.int (iI i))]) (st' := [.int (iI (sc 8064 + i + 1)), .ref 80]) rfl (by simp only [iI_add, iI_sub, iI_mul, iI_neg]) ?_
    refine RQ.seg 3 (pc' := 2) (L' := [some (.ref 80), some (.ref 91), some (.int ((iI i) + (iI 1)))]) (st' := []) (g1 := (HW (usc sc 8064 (sc 8064 + i + 1)) (usc ar 91 (usz f i ((ar 116) (sc 8064 + i)))) tx oc rl ou tl, q)) rfl ?_
    refine RQ.to (L' := [some (.ref 80), some (.ref 91), some (.int (iI (i + 1)))]) (st' := []) (by simp only [iI_add, iI_sub, iI_mul, iI_neg]) rfl ?_
    rw [show sc 8064 + i + 1 = sc 8064 + (i + 1) by omega]
    refine m_bring91_l hp hk m (i + 1) _ (by omega) (fun k k0 k1 => ?_)
    by_cases e : k = i
    · subst e; exact usz_s _ _ _
    · rw [usz_n e]; exact hf k k0 (by omega)
theorem m_bring91 {K : PK} {d : Nat} {sc : Nat → Int} {ar : Nat → Int → Int} {tx oc : Nat} {rl : Nat → Option Nat} {ou : Nat → Int64} {tl : List PO} {q : Nat × Nat} (hp : 0 ≤ sc 8064 ∧ sc 8064 + 3 ≤ 286) : CQ K (d + 1) 232 [.ref 80, .ref 91] (HW sc ar tx oc rl ou tl, q) (fun r g' => r = none ∧ ∃ f, g' = (HW (usc sc 8064 (sc 8064 + 3)) (usc ar 91 f) tx oc rl ou tl, q) ∧ (∀ k, 0 ≤ k → k < 3 → f k = ar 116 (sc 8064 + k))) := by
  refine CQ.of (own := 11) (n := 3) (ini := false) (rt := none) (cd := cd232) (by decide +kernel) rfl (by decide +kernel) rfl (Nat.le_of_ble_eq_true rfl) ?_
  refine RQ.seg 2 (pc' := 2) (L' := [some (.ref 80), some (.ref 91), some (.int (iI 0))]) (st' := []) (g1 := (HW sc ar tx oc rl ou tl, q)) rfl ?_
  refine RQ.hp (g1 := (HW (usc sc 8064 (sc 8064 + 0)) (usc ar 91 (ar 91)) tx oc rl ou tl, q)) (HW_e (by rw [Int.add_zero]; exact (usc_id sc 8064).symm) (usc_id ar 91).symm) ?_
  exact m_bring91_l hp (fun f hf => ⟨rfl, f, rfl, hf⟩) 3 0 (ar 91) (by omega) (fun k k0 k1 => absurd k1 (by omega))
theorem m_keep92_l {K : PK} {d : Nat} {sc : Nat → Int} {ar : Nat → Int → Int} {tx oc : Nat} {rl : Nat → Option Nat} {ou : Nat → Int64} {tl : List PO} {q : Nat × Nat} {Q : Option Value → PG → Prop} (hp : 0 ≤ sc 8064 ∧ sc 8064 + 3 ≤ 286) (hk : ∀ f : Int → Int, (∀ k, 0 ≤ k → k < 286 → f k = (if sc 8064 ≤ k ∧ k < sc 8064 + 3 then ar 92 (k - sc 8064) else ar 116 k)) → Q none (HW (usc sc 8064 (sc 8064 + 3)) (usc ar 116 f) tx oc rl ou tl, q)) : ∀ (m : Nat) (i : Int) (f : Int → Int) (hm : 0 ≤ i ∧ i + m = 3) (hf : (∀ k, 0 ≤ k → k < 286 → f k = (if sc 8064 ≤ k ∧ k < sc 8064 + i then ar 92 (k - sc 8064) else ar 116 k))), RQ K (d + 0) 11 false none cd231 2 [some (.ref 80), some (.ref 92), some (.int (iI i))] [] (HW (usc sc 8064 (sc 8064 + i)) (usc ar 116 f) tx oc rl ou tl, q) Q
  | 0, i, f, hm, hf => by
    refine RQ.seg 2 (pc' := 4) (L' := [some (.ref 80), some (.ref 92), some (.int (iI i))]) (st' := [.ref 92, .int (iI i)]) (g1 := (HW (usc sc 8064 (sc 8064 + i)) (usc ar 116 f) tx oc rl ou tl, q)) rfl ?_
    refine RQ.alen rfl rfl ?_
    refine RQ.if2 (a := i) (b := 3) rfl rfl rfl rfl (by omega) (by omega) (fun _ => ?_) (fun (q : ¬ 3 ≤ i) => absurd (show 3 ≤ i from by omega) q)
    refine RQ.ret rfl rfl ?_
    obtain rfl : i = 3 := by omega
    exact hk f hf
  | m + 1, i, f, hm, hf => by
    refine RQ.seg 2 (pc' := 4) (L' := [some (.ref 80), some (.ref 92), some (.int (iI i))]) (st' := [.ref 92, .int (iI i)]) (g1 := (HW (usc sc 8064 (sc 8064 + i)) (usc ar 116 f) tx oc rl ou tl, q)) rfl ?_
    refine RQ.alen rfl rfl ?_
    refine RQ.if2 (a := i) (b := 3) rfl rfl rfl rfl (by omega) (by omega) (fun (q : 3 ≤ i) => absurd q (show ¬ 3 ≤ i from by omega)) (fun _ => ?_)
    refine RQ.seg 6 (pc' := 18) (L' := [some (.ref 80), some (.ref 92), some (.int (iI i))]) (st' := [.int (iI i), .ref 92, .int (iI (sc 8064 + i)), .ref 116]) (g1 := (HW (usc sc 8064 (sc 8064 + i)) (usc ar 116 f) tx oc rl ou tl, q)) rfl ?_
    refine RQ.iald (z := i) rfl rfl rfl (by omega) (by decide) ?_
    refine RQ.iast (z := (sc 8064 + i)) (v := ((ar 92) i)) (g1 := (HW (usc sc 8064 (sc 8064 + i)) (usc ar 116 (usz f (sc 8064 + i) ((ar 92) i))) tx oc rl ou tl, q)) rfl rfl rfl rfl (by omega) (by decide) (HWa_116 (by funext j; unfold usc; cases hb : Nat.beq j 116 <;> first | rfl | (rw [Nat.eq_of_beq_eq_true hb]; rfl))) ?_
    refine RQ.seg 5 (pc' := 27) (L' := [some (.ref 80), some (.ref 92), some (.int (iI i))]) (st' := [.int ((iI (sc 8064 + i)) + (iI 1)), .ref 80]) (g1 := (HW (usc sc 8064 (sc 8064 + i)) (usc ar 116 (usz f (sc 8064 + i) ((ar 92) i))) tx oc rl ou tl, q)) rfl ?_
    refine RQ.to (L' := [some (.ref 80), some (.ref 92), some (.int (iI i))]) (st' := [.int (iI (sc 8064 + i + 1)), .ref 80]) rfl (by simp only [iI_add, iI_sub, iI_mul, iI_neg]) ?_
    refine RQ.seg 3 (pc' := 2) (L' := [some (.ref 80), some (.ref 92), some (.int ((iI i) + (iI 1)))]) (st' := []) (g1 := (HW (usc sc 8064 (sc 8064 + i + 1)) (usc ar 116 (usz f (sc 8064 + i) ((ar 92) i))) tx oc rl ou tl, q)) rfl ?_
    refine RQ.to (L' := [some (.ref 80), some (.ref 92), some (.int (iI (i + 1)))]) (st' := []) (by simp only [iI_add, iI_sub, iI_mul, iI_neg]) rfl ?_
    rw [show sc 8064 + i + 1 = sc 8064 + (i + 1) by omega]
    refine m_keep92_l hp hk m (i + 1) _ (by omega) (fun k k0 k1 => ?_)
    by_cases e : k = sc 8064 + i
    · subst e; rw [usz_s, if_pos (by omega), show sc 8064 + i - sc 8064 = i by omega]
    · rw [usz_n e, hf k k0 k1]; by_cases e2 : sc 8064 ≤ k ∧ k < sc 8064 + i
      · rw [if_pos e2, if_pos (by omega)]
      · rw [if_neg e2, if_neg (by omega)]
theorem m_keep92 {K : PK} {d : Nat} {sc : Nat → Int} {ar : Nat → Int → Int} {tx oc : Nat} {rl : Nat → Option Nat} {ou : Nat → Int64} {tl : List PO} {q : Nat × Nat} (hp : 0 ≤ sc 8064 ∧ sc 8064 + 3 ≤ 286) : CQ K (d + 1) 231 [.ref 80, .ref 92] (HW sc ar tx oc rl ou tl, q) (fun r g' => r = none ∧ ∃ f, g' = (HW (usc sc 8064 (sc 8064 + 3)) (usc ar 116 f) tx oc rl ou tl, q) ∧ (∀ k, 0 ≤ k → k < 286 → f k = (if sc 8064 ≤ k ∧ k < sc 8064 + 3 then ar 92 (k - sc 8064) else ar 116 k))) := by
  refine CQ.of (own := 11) (n := 3) (ini := false) (rt := none) (cd := cd231) (by decide +kernel) rfl (by decide +kernel) rfl (Nat.le_of_ble_eq_true rfl) ?_
  refine RQ.seg 2 (pc' := 2) (L' := [some (.ref 80), some (.ref 92), some (.int (iI 0))]) (st' := []) (g1 := (HW sc ar tx oc rl ou tl, q)) rfl ?_
  refine RQ.hp (g1 := (HW (usc sc 8064 (sc 8064 + 0)) (usc ar 116 (ar 116)) tx oc rl ou tl, q)) (HW_e (by rw [Int.add_zero]; exact (usc_id sc 8064).symm) (usc_id ar 116).symm) ?_
  exact m_keep92_l hp (fun f hf => ⟨rfl, f, rfl, hf⟩) 3 0 (ar 116) (by omega) (fun k k0 k1 => (if_neg (by omega)).symm)
theorem m_bring92_l {K : PK} {d : Nat} {sc : Nat → Int} {ar : Nat → Int → Int} {tx oc : Nat} {rl : Nat → Option Nat} {ou : Nat → Int64} {tl : List PO} {q : Nat × Nat} {Q : Option Value → PG → Prop} (hp : 0 ≤ sc 8064 ∧ sc 8064 + 3 ≤ 286) (hk : ∀ f : Int → Int, (∀ k, 0 ≤ k → k < 3 → f k = ar 116 (sc 8064 + k)) → Q none (HW (usc sc 8064 (sc 8064 + 3)) (usc ar 92 f) tx oc rl ou tl, q)) : ∀ (m : Nat) (i : Int) (f : Int → Int) (hm : 0 ≤ i ∧ i + m = 3) (hf : (∀ k, 0 ≤ k → k < i → f k = ar 116 (sc 8064 + k))), RQ K (d + 0) 11 false none cd232 2 [some (.ref 80), some (.ref 92), some (.int (iI i))] [] (HW (usc sc 8064 (sc 8064 + i)) (usc ar 92 f) tx oc rl ou tl, q) Q
  | 0, i, f, hm, hf => by
    refine RQ.seg 2 (pc' := 4) (L' := [some (.ref 80), some (.ref 92), some (.int (iI i))]) (st' := [.ref 92, .int (iI i)]) (g1 := (HW (usc sc 8064 (sc 8064 + i)) (usc ar 92 f) tx oc rl ou tl, q)) rfl ?_
    refine RQ.alen rfl rfl ?_
    refine RQ.if2 (a := i) (b := 3) rfl rfl rfl rfl (by omega) (by omega) (fun _ => ?_) (fun (q : ¬ 3 ≤ i) => absurd (show 3 ≤ i from by omega) q)
    refine RQ.ret rfl rfl ?_
    obtain rfl : i = 3 := by omega
    exact hk f hf
  | m + 1, i, f, hm, hf => by
    refine RQ.seg 2 (pc' := 4) (L' := [some (.ref 80), some (.ref 92), some (.int (iI i))]) (st' := [.ref 92, .int (iI i)]) (g1 := (HW (usc sc 8064 (sc 8064 + i)) (usc ar 92 f) tx oc rl ou tl, q)) rfl ?_
    refine RQ.alen rfl rfl ?_
    refine RQ.if2 (a := i) (b := 3) rfl rfl rfl rfl (by omega) (by omega) (fun (q : 3 ≤ i) => absurd q (show ¬ 3 ≤ i from by omega)) (fun _ => ?_)
    refine RQ.seg 6 (pc' := 18) (L' := [some (.ref 80), some (.ref 92), some (.int (iI i))]) (st' := [.int (iI (sc 8064 + i)), .ref 116, .int (iI i), .ref 92]) (g1 := (HW (usc sc 8064 (sc 8064 + i)) (usc ar 92 f) tx oc rl ou tl, q)) rfl ?_
    refine RQ.iald (z := (sc 8064 + i)) rfl rfl rfl (by omega) (by decide) ?_
    refine RQ.iast (z := i) (v := ((ar 116) (sc 8064 + i))) (g1 := (HW (usc sc 8064 (sc 8064 + i)) (usc ar 92 (usz f i ((ar 116) (sc 8064 + i)))) tx oc rl ou tl, q)) rfl rfl rfl rfl (by omega) (by decide) (HWa_92 (by funext j; unfold usc; cases hb : Nat.beq j 92 <;> first | rfl | (rw [Nat.eq_of_beq_eq_true hb]; rfl))) ?_
    refine RQ.seg 5 (pc' := 27) (L' := [some (.ref 80), some (.ref 92), some (.int (iI i))]) (st' := [.int ((iI (sc 8064 + i)) + (iI 1)), .ref 80]) (g1 := (HW (usc sc 8064 (sc 8064 + i)) (usc ar 92 (usz f i ((ar 116) (sc 8064 + i)))) tx oc rl ou tl, q)) rfl ?_
    refine RQ.to (L' := [some (.ref 80), some (.ref 92), some (.int (iI i))]) (st' := [.int (iI (sc 8064 + i + 1)), .ref 80]) rfl (by simp only [iI_add, iI_sub, iI_mul, iI_neg]) ?_
    refine RQ.seg 3 (pc' := 2) (L' := [some (.ref 80), some (.ref 92), some (.int ((iI i) + (iI 1)))]) (st' := []) (g1 := (HW (usc sc 8064 (sc 8064 + i + 1)) (usc ar 92 (usz f i ((ar 116) (sc 8064 + i)))) tx oc rl ou tl, q)) rfl ?_
    refine RQ.to (L' := [some (.ref 80), some (.ref 92), some (.int (iI (i + 1)))]) (st' := []) (by simp only [iI_add, iI_sub, iI_mul, iI_neg]) rfl ?_
    rw [show sc 8064 + i + 1 = sc 8064 + (i + 1) by omega]
    refine m_bring92_l hp hk m (i + 1) _ (by omega) (fun k k0 k1 => ?_)
    by_cases e : k = i
    · subst e; exact usz_s _ _ _
    · rw [usz_n e]; exact hf k k0 (by omega)
theorem m_bring92 {K : PK} {d : Nat} {sc : Nat → Int} {ar : Nat → Int → Int} {tx oc : Nat} {rl : Nat → Option Nat} {ou : Nat → Int64} {tl : List PO} {q : Nat × Nat} (hp : 0 ≤ sc 8064 ∧ sc 8064 + 3 ≤ 286) : CQ K (d + 1) 232 [.ref 80, .ref 92] (HW sc ar tx oc rl ou tl, q) (fun r g' => r = none ∧ ∃ f, g' = (HW (usc sc 8064 (sc 8064 + 3)) (usc ar 92 f) tx oc rl ou tl, q) ∧ (∀ k, 0 ≤ k → k < 3 → f k = ar 116 (sc 8064 + k))) := by
  refine CQ.of (own := 11) (n := 3) (ini := false) (rt := none) (cd := cd232) (by decide +kernel) rfl (by decide +kernel) rfl (Nat.le_of_ble_eq_true rfl) ?_
  refine RQ.seg 2 (pc' := 2) (L' := [some (.ref 80), some (.ref 92), some (.int (iI 0))]) (st' := []) (g1 := (HW sc ar tx oc rl ou tl, q)) rfl ?_
  refine RQ.hp (g1 := (HW (usc sc 8064 (sc 8064 + 0)) (usc ar 92 (ar 92)) tx oc rl ou tl, q)) (HW_e (by rw [Int.add_zero]; exact (usc_id sc 8064).symm) (usc_id ar 92).symm) ?_
  exact m_bring92_l hp (fun f hf => ⟨rfl, f, rfl, hf⟩) 3 0 (ar 92) (by omega) (fun k k0 k1 => absurd k1 (by omega))
theorem m_keep93_l {K : PK} {d : Nat} {sc : Nat → Int} {ar : Nat → Int → Int} {tx oc : Nat} {rl : Nat → Option Nat} {ou : Nat → Int64} {tl : List PO} {q : Nat × Nat} {Q : Option Value → PG → Prop} (hp : 0 ≤ sc 8064 ∧ sc 8064 + 3 ≤ 286) (hk : ∀ f : Int → Int, (∀ k, 0 ≤ k → k < 286 → f k = (if sc 8064 ≤ k ∧ k < sc 8064 + 3 then ar 93 (k - sc 8064) else ar 116 k)) → Q none (HW (usc sc 8064 (sc 8064 + 3)) (usc ar 116 f) tx oc rl ou tl, q)) : ∀ (m : Nat) (i : Int) (f : Int → Int) (hm : 0 ≤ i ∧ i + m = 3) (hf : (∀ k, 0 ≤ k → k < 286 → f k = (if sc 8064 ≤ k ∧ k < sc 8064 + i then ar 93 (k - sc 8064) else ar 116 k))), RQ K (d + 0) 11 false none cd231 2 [some (.ref 80), some (.ref 93), some (.int (iI i))] [] (HW (usc sc 8064 (sc 8064 + i)) (usc ar 116 f) tx oc rl ou tl, q) Q
  | 0, i, f, hm, hf => by
    refine RQ.seg 2 (pc' := 4) (L' := [some (.ref 80), some (.ref 93), some (.int (iI i))]) (st' := [.ref 93, .int (iI i)]) (g1 := (HW (usc sc 8064 (sc 8064 + i)) (usc ar 116 f) tx oc rl ou tl, q)) rfl ?_
    refine RQ.alen rfl rfl ?_
    refine RQ.if2 (a := i) (b := 3) rfl rfl rfl rfl (by omega) (by omega) (fun _ => ?_) (fun (q : ¬ 3 ≤ i) => absurd (show 3 ≤ i from by omega) q)
    refine RQ.ret rfl rfl ?_
    obtain rfl : i = 3 := by omega
    exact hk f hf
  | m + 1, i, f, hm, hf => by
    refine RQ.seg 2 (pc' := 4) (L' := [some (.ref 80), some (.ref 93), some (.int (iI i))]) (st' := [.ref 93, .int (iI i)]) (g1 := (HW (usc sc 8064 (sc 8064 + i)) (usc ar 116 f) tx oc rl ou tl, q)) rfl ?_
    refine RQ.alen rfl rfl ?_
    refine RQ.if2 (a := i) (b := 3) rfl rfl rfl rfl (by omega) (by omega) (fun (q : 3 ≤ i) => absurd q (show ¬ 3 ≤ i from by omega)) (fun _ => ?_)
    refine RQ.seg 6 (pc' := 18) (L' := [some (.ref 80), some (.ref 93), some (.int (iI i))]) (st' := [.int (iI i), .ref 93, .int (iI (sc 8064 + i)), .ref 116]) (g1 := (HW (usc sc 8064 (sc 8064 + i)) (usc ar 116 f) tx oc rl ou tl, q)) rfl ?_
    refine RQ.iald (z := i) rfl rfl rfl (by omega) (by decide) ?_
    refine RQ.iast (z := (sc 8064 + i)) (v := ((ar 93) i)) (g1 := (HW (usc sc 8064 (sc 8064 + i)) (usc ar 116 (usz f (sc 8064 + i) ((ar 93) i))) tx oc rl ou tl, q)) rfl rfl rfl rfl (by omega) (by decide) (HWa_116 (by funext j; unfold usc; cases hb : Nat.beq j 116 <;> first | rfl | (rw [Nat.eq_of_beq_eq_true hb]; rfl))) ?_
    refine RQ.seg 5 (pc' := 27) (L' := [some (.ref 80), some (.ref 93), some (.int (iI i))]) (st' := [.int ((iI (sc 8064 + i)) + (iI 1)), .ref 80]) (g1 := (HW (usc sc 8064 (sc 8064 + i)) (usc ar 116 (usz f (sc 8064 + i) ((ar 93) i))) tx oc rl ou tl, q)) rfl ?_
    refine RQ.to (L' := [some (.ref 80), some (.ref 93), some (.int (iI i))]) (st' := [.int (iI (sc 8064 + i + 1)), .ref 80]) rfl (by simp only [iI_add, iI_sub, iI_mul, iI_neg]) ?_
    refine RQ.seg 3 (pc' := 2) (L' := [some (.ref 80), some (.ref 93), some (.int ((iI i) + (iI 1)))]) (st' := []) (g1 := (HW (usc sc 8064 (sc 8064 + i + 1)) (usc ar 116 (usz f (sc 8064 + i) ((ar 93) i))) tx oc rl ou tl, q)) rfl ?_
    refine RQ.to (L' := [some (.ref 80), some (.ref 93), some (.int (iI (i + 1)))]) (st' := []) (by simp only [iI_add, iI_sub, iI_mul, iI_neg]) rfl ?_
    rw [show sc 8064 + i + 1 = sc 8064 + (i + 1) by omega]
    refine m_keep93_l hp hk m (i + 1) _ (by omega) (fun k k0 k1 => ?_)
    by_cases e : k = sc 8064 + i
    · subst e; rw [usz_s, if_pos (by omega), show sc 8064 + i - sc 8064 = i by omega]
    · rw [usz_n e, hf k k0 k1]; by_cases e2 : sc 8064 ≤ k ∧ k < sc 8064 + i
      · rw [if_pos e2, if_pos (by omega)]
      · rw [if_neg e2, if_neg (by omega)]
theorem m_keep93 {K : PK} {d : Nat} {sc : Nat → Int} {ar : Nat → Int → Int} {tx oc : Nat} {rl : Nat → Option Nat} {ou : Nat → Int64} {tl : List PO} {q : Nat × Nat} (hp : 0 ≤ sc 8064 ∧ sc 8064 + 3 ≤ 286) : CQ K (d + 1) 231 [.ref 80, .ref 93] (HW sc ar tx oc rl ou tl, q) (fun r g' => r = none ∧ ∃ f, g' = (HW (usc sc 8064 (sc 8064 + 3)) (usc ar 116 f) tx oc rl ou tl, q) ∧ (∀ k, 0 ≤ k → k < 286 → f k = (if sc 8064 ≤ k ∧ k < sc 8064 + 3 then ar 93 (k - sc 8064) else ar 116 k))) := by
  refine CQ.of (own := 11) (n := 3) (ini := false) (rt := none) (cd := cd231) (by decide +kernel) rfl (by decide +kernel) rfl (Nat.le_of_ble_eq_true rfl) ?_
  refine RQ.seg 2 (pc' := 2) (L' := [some (.ref 80), some (.ref 93), some (.int (iI 0))]) (st' := []) (g1 := (HW sc ar tx oc rl ou tl, q)) rfl ?_
  refine RQ.hp (g1 := (HW (usc sc 8064 (sc 8064 + 0)) (usc ar 116 (ar 116)) tx oc rl ou tl, q)) (HW_e (by rw [Int.add_zero]; exact (usc_id sc 8064).symm) (usc_id ar 116).symm) ?_
  exact m_keep93_l hp (fun f hf => ⟨rfl, f, rfl, hf⟩) 3 0 (ar 116) (by omega) (fun k k0 k1 => (if_neg (by omega)).symm)
theorem m_bring93_l {K : PK} {d : Nat} {sc : Nat → Int} {ar : Nat → Int → Int} {tx oc : Nat} {rl : Nat → Option Nat} {ou : Nat → Int64} {tl : List PO} {q : Nat × Nat} {Q : Option Value → PG → Prop} (hp : 0 ≤ sc 8064 ∧ sc 8064 + 3 ≤ 286) (hk : ∀ f : Int → Int, (∀ k, 0 ≤ k → k < 3 → f k = ar 116 (sc 8064 + k)) → Q none (HW (usc sc 8064 (sc 8064 + 3)) (usc ar 93 f) tx oc rl ou tl, q)) : ∀ (m : Nat) (i : Int) (f : Int → Int) (hm : 0 ≤ i ∧ i + m = 3) (hf : (∀ k, 0 ≤ k → k < i → f k = ar 116 (sc 8064 + k))), RQ K (d + 0) 11 false none cd232 2 [some (.ref 80), some (.ref 93), some (.int (iI i))] [] (HW (usc sc 8064 (sc 8064 + i)) (usc ar 93 f) tx oc rl ou tl, q) Q
  | 0, i, f, hm, hf => by
    refine RQ.seg 2 (pc' := 4) (L' := [some (.ref 80), some (.ref 93), some (.int (iI i))]) (st' := [.ref 93, .int (iI i)]) (g1 := (HW (usc sc 8064 (sc 8064 + i)) (usc ar 93 f) tx oc rl ou tl, q)) rfl ?_
    refine RQ.alen rfl rfl ?_
    refine RQ.if2 (a := i) (b := 3) rfl rfl rfl rfl (by omega) (by omega) (fun _ => ?_) (fun (q : ¬ 3 ≤ i) => absurd (show 3 ≤ i from by omega) q)
    refine RQ.ret rfl rfl ?_
    obtain rfl : i = 3 := by omega
    exact hk f hf
  | m + 1, i, f, hm, hf => by
    refine RQ.seg 2 (pc' := 4) (L' := [some (.ref 80), some (.ref 93), some (.int (iI i))]) (st' := [.ref 93, .int (iI i)]) (g1 := (HW (usc sc 8064 (sc 8064 + i)) (usc ar 93 f) tx oc rl ou tl, q)) rfl ?_
    refine RQ.alen rfl rfl ?_
    refine RQ.if2 (a := i) (b := 3) rfl rfl rfl rfl (by omega) (by omega) (fun (q : 3 ≤ i) => absurd q (show ¬ 3 ≤ i from by omega)) (fun _ => ?_)
    refine RQ.seg 6 (pc' := 18) (L' := [some (.ref 80), some (.ref 93), some (.int (iI i))]) (st' := [.int (iI (sc 8064 + i)), .ref 116, .int (iI i), .ref 93]) (g1 := (HW (usc sc 8064 (sc 8064 + i)) (usc ar 93 f) tx oc rl ou tl, q)) rfl ?_
    refine RQ.iald (z := (sc 8064 + i)) rfl rfl rfl (by omega) (by decide) ?_
    refine RQ.iast (z := i) (v := ((ar 116) (sc 8064 + i))) (g1 := (HW (usc sc 8064 (sc 8064 + i)) (usc ar 93 (usz f i ((ar 116) (sc 8064 + i)))) tx oc rl ou tl, q)) rfl rfl rfl rfl (by omega) (by decide) (HWa_93 (by funext j; unfold usc; cases hb : Nat.beq j 93 <;> first | rfl | (rw [Nat.eq_of_beq_eq_true hb]; rfl))) ?_
    refine RQ.seg 5 (pc' := 27) (L' := [some (.ref 80), some (.ref 93), some (.int (iI i))]) (st' := [.int ((iI (sc 8064 + i)) + (iI 1)), .ref 80]) (g1 := (HW (usc sc 8064 (sc 8064 + i)) (usc ar 93 (usz f i ((ar 116) (sc 8064 + i)))) tx oc rl ou tl, q)) rfl ?_
    refine RQ.to (L' := [some (.ref 80), some (.ref 93), some (.int (iI i))]) (st' := [.int (iI (sc 8064 + i + 1)), .ref 80]) rfl (by simp only [iI_add, iI_sub, iI_mul, iI_neg]) ?_
    refine RQ.seg 3 (pc' := 2) (L' := [some (.ref 80), some (.ref 93), some (.int ((iI i) + (iI 1)))]) (st' := []) (g1 := (HW (usc sc 8064 (sc 8064 + i + 1)) (usc ar 93 (usz f i ((ar 116) (sc 8064 + i)))) tx oc rl ou tl, q)) rfl ?_
    refine RQ.to (L' := [some (.ref 80), some (.ref 93), some (.int (iI (i + 1)))]) (st' := []) (by simp only [iI_add, iI_sub, iI_mul, iI_neg]) rfl ?_
    rw [show sc 8064 + i + 1 = sc 8064 + (i + 1) by omega]
    refine m_bring93_l hp hk m (i + 1) _ (by omega) (fun k k0 k1 => ?_)
    by_cases e : k = i
    · subst e; exact usz_s _ _ _
    · rw [usz_n e]; exact hf k k0 (by omega)
theorem m_bring93 {K : PK} {d : Nat} {sc : Nat → Int} {ar : Nat → Int → Int} {tx oc : Nat} {rl : Nat → Option Nat} {ou : Nat → Int64} {tl : List PO} {q : Nat × Nat} (hp : 0 ≤ sc 8064 ∧ sc 8064 + 3 ≤ 286) : CQ K (d + 1) 232 [.ref 80, .ref 93] (HW sc ar tx oc rl ou tl, q) (fun r g' => r = none ∧ ∃ f, g' = (HW (usc sc 8064 (sc 8064 + 3)) (usc ar 93 f) tx oc rl ou tl, q) ∧ (∀ k, 0 ≤ k → k < 3 → f k = ar 116 (sc 8064 + k))) := by
  refine CQ.of (own := 11) (n := 3) (ini := false) (rt := none) (cd := cd232) (by decide +kernel) rfl (by decide +kernel) rfl (Nat.le_of_ble_eq_true rfl) ?_
  refine RQ.seg 2 (pc' := 2) (L' := [some (.ref 80), some (.ref 93), some (.int (iI 0))]) (st' := []) (g1 := (HW sc ar tx oc rl ou tl, q)) rfl ?_
  refine RQ.hp (g1 := (HW (usc sc 8064 (sc 8064 + 0)) (usc ar 93 (ar 93)) tx oc rl ou tl, q)) (HW_e (by rw [Int.add_zero]; exact (usc_id sc 8064).symm) (usc_id ar 93).symm) ?_
  exact m_bring93_l hp (fun f hf => ⟨rfl, f, rfl, hf⟩) 3 0 (ar 93) (by omega) (fun k k0 k1 => absurd k1 (by omega))
theorem m_keep87_l {K : PK} {d : Nat} {sc : Nat → Int} {ar : Nat → Int → Int} {tx oc : Nat} {rl : Nat → Option Nat} {ou : Nat → Int64} {tl : List PO} {q : Nat × Nat} {Q : Option Value → PG → Prop} (hp : 0 ≤ sc 8064 ∧ sc 8064 + 4 ≤ 286) (hk : ∀ f : Int → Int, (∀ k, 0 ≤ k → k < 286 → f k = (if sc 8064 ≤ k ∧ k < sc 8064 + 4 then ar 87 (k - sc 8064) else ar 116 k)) → Q none (HW (usc sc 8064 (sc 8064 + 4)) (usc ar 116 f) tx oc rl ou tl, q)) : ∀ (m : Nat) (i : Int) (f : Int → Int) (hm : 0 ≤ i ∧ i + m = 4) (hf : (∀ k, 0 ≤ k → k < 286 → f k = (if sc 8064 ≤ k ∧ k < sc 8064 + i then ar 87 (k - sc 8064) else ar 116 k))), RQ K (d + 0) 11 false none cd231 2 [some (.ref 80), some (.ref 87), some (.int (iI i))] [] (HW (usc sc 8064 (sc 8064 + i)) (usc ar 116 f) tx oc rl ou tl, q) Q
  | 0, i, f, hm, hf => by
    refine RQ.seg 2 (pc' := 4) (L' := [some (.ref 80), some (.ref 87), some (.int (iI i))]) (st' := [.ref 87, .int (iI i)]) (g1 := (HW (usc sc 8064 (sc 8064 + i)) (usc ar 116 f) tx oc rl ou tl, q)) rfl ?_
    refine RQ.alen rfl rfl ?_
    refine RQ.if2 (a := i) (b := 4) rfl rfl rfl rfl (by omega) (by omega) (fun _ => ?_) (fun (q : ¬ 4 ≤ i) => absurd (show 4 ≤ i from by omega) q)
    refine RQ.ret rfl rfl ?_
    obtain rfl : i = 4 := by omega
    exact hk f hf
  | m + 1, i, f, hm, hf => by
    refine RQ.seg 2 (pc' := 4) (L' := [some (.ref 80), some (.ref 87), some (.int (iI i))]) (st' := [.ref 87, .int (iI i)]) (g1 := (HW (usc sc 8064 (sc 8064 + i)) (usc ar 116 f) tx oc rl ou tl, q)) rfl ?_
    refine RQ.alen rfl rfl ?_
    refine RQ.if2 (a := i) (b := 4) rfl rfl rfl rfl (by omega) (by omega) (fun (q : 4 ≤ i) => absurd q (show ¬ 4 ≤ i from by omega)) (fun _ => ?_)
    refine RQ.seg 6 (pc' := 18) (L' := [some (.ref 80), some (.ref 87), some (.int (iI i))]) (st' := [.int (iI i), .ref 87, .int (iI (sc 8064 + i)), .ref 116]) (g1 := (HW (usc sc 8064 (sc 8064 + i)) (usc ar 116 f) tx oc rl ou tl, q)) rfl ?_
    refine RQ.iald (z := i) rfl rfl rfl (by omega) (by decide) ?_
    refine RQ.iast (z := (sc 8064 + i)) (v := ((ar 87) i)) (g1 := (HW (usc sc 8064 (sc 8064 + i)) (usc ar 116 (usz f (sc 8064 + i) ((ar 87) i))) tx oc rl ou tl, q)) rfl rfl rfl rfl (by omega) (by decide) (HWa_116 (by funext j; unfold usc; cases hb : Nat.beq j 116 <;> first | rfl | (rw [Nat.eq_of_beq_eq_true hb]; rfl))) ?_
    refine RQ.seg 5 (pc' := 27) (L' := [some (.ref 80), some (.ref 87), some (.int (iI i))]) (st' := [.int ((iI (sc 8064 + i)) + (iI 1)), .ref 80]) (g1 := (HW (usc sc 8064 (sc 8064 + i)) (usc ar 116 (usz f (sc 8064 + i) ((ar 87) i))) tx oc rl ou tl, q)) rfl ?_
    refine RQ.to (L' := [some (.ref 80), some (.ref 87), some (.int (iI i))]) (st' := [.int (iI (sc 8064 + i + 1)), .ref 80]) rfl (by simp only [iI_add, iI_sub, iI_mul, iI_neg]) ?_
    refine RQ.seg 3 (pc' := 2) (L' := [some (.ref 80), some (.ref 87), some (.int ((iI i) + (iI 1)))]) (st' := []) (g1 := (HW (usc sc 8064 (sc 8064 + i + 1)) (usc ar 116 (usz f (sc 8064 + i) ((ar 87) i))) tx oc rl ou tl, q)) rfl ?_
    refine RQ.to (L' := [some (.ref 80), some (.ref 87), some (.int (iI (i + 1)))]) (st' := []) (by simp only [iI_add, iI_sub, iI_mul, iI_neg]) rfl ?_
    rw [show sc 8064 + i + 1 = sc 8064 + (i + 1) by omega]
    refine m_keep87_l hp hk m (i + 1) _ (by omega) (fun k k0 k1 => ?_)
    by_cases e : k = sc 8064 + i
    · subst e; rw [usz_s, if_pos (by omega), show sc 8064 + i - sc 8064 = i by omega]
    · rw [usz_n e, hf k k0 k1]; by_cases e2 : sc 8064 ≤ k ∧ k < sc 8064 + i
      · rw [if_pos e2, if_pos (by omega)]
      · rw [if_neg e2, if_neg (by omega)]
theorem m_keep87 {K : PK} {d : Nat} {sc : Nat → Int} {ar : Nat → Int → Int} {tx oc : Nat} {rl : Nat → Option Nat} {ou : Nat → Int64} {tl : List PO} {q : Nat × Nat} (hp : 0 ≤ sc 8064 ∧ sc 8064 + 4 ≤ 286) : CQ K (d + 1) 231 [.ref 80, .ref 87] (HW sc ar tx oc rl ou tl, q) (fun r g' => r = none ∧ ∃ f, g' = (HW (usc sc 8064 (sc 8064 + 4)) (usc ar 116 f) tx oc rl ou tl, q) ∧ (∀ k, 0 ≤ k → k < 286 → f k = (if sc 8064 ≤ k ∧ k < sc 8064 + 4 then ar 87 (k - sc 8064) else ar 116 k))) := by
  refine CQ.of (own := 11) (n := 3) (ini := false) (rt := none) (cd := cd231) (by decide +kernel) rfl (by decide +kernel) rfl (Nat.le_of_ble_eq_true rfl) ?_
  refine RQ.seg 2 (pc' := 2) (L' := [some (.ref 80), some (.ref 87), some (.int (iI 0))]) (st' := []) (g1 := (HW sc ar tx oc rl ou tl, q)) rfl ?_
  refine RQ.hp (g1 := (HW (usc sc 8064 (sc 8064 + 0)) (usc ar 116 (ar 116)) tx oc rl ou tl, q)) (HW_e (by rw [Int.add_zero]; exact (usc_id sc 8064).symm) (usc_id ar 116).symm) ?_
  exact m_keep87_l hp (fun f hf => ⟨rfl, f, rfl, hf⟩) 4 0 (ar 116) (by omega) (fun k k0 k1 => (if_neg (by omega)).symm)
theorem m_bring87_l {K : PK} {d : Nat} {sc : Nat → Int} {ar : Nat → Int → Int} {tx oc : Nat} {rl : Nat → Option Nat} {ou : Nat → Int64} {tl : List PO} {q : Nat × Nat} {Q : Option Value → PG → Prop} (hp : 0 ≤ sc 8064 ∧ sc 8064 + 4 ≤ 286) (hk : ∀ f : Int → Int, (∀ k, 0 ≤ k → k < 4 → f k = ar 116 (sc 8064 + k)) → Q none (HW (usc sc 8064 (sc 8064 + 4)) (usc ar 87 f) tx oc rl ou tl, q)) : ∀ (m : Nat) (i : Int) (f : Int → Int) (hm : 0 ≤ i ∧ i + m = 4) (hf : (∀ k, 0 ≤ k → k < i → f k = ar 116 (sc 8064 + k))), RQ K (d + 0) 11 false none cd232 2 [some (.ref 80), some (.ref 87), some (.int (iI i))] [] (HW (usc sc 8064 (sc 8064 + i)) (usc ar 87 f) tx oc rl ou tl, q) Q
  | 0, i, f, hm, hf => by
    refine RQ.seg 2 (pc' := 4) (L' := [some (.ref 80), some (.ref 87), some (.int (iI i))]) (st' := [.ref 87, .int (iI i)]) (g1 := (HW (usc sc 8064 (sc 8064 + i)) (usc ar 87 f) tx oc rl ou tl, q)) rfl ?_
    refine RQ.alen rfl rfl ?_
    refine RQ.if2 (a := i) (b := 4) rfl rfl rfl rfl (by omega) (by omega) (fun _ => ?_) (fun (q : ¬ 4 ≤ i) => absurd (show 4 ≤ i from by omega) q)
    refine RQ.ret rfl rfl ?_
    obtain rfl : i = 4 := by omega
    exact hk f hf
  | m + 1, i, f, hm, hf => by
    refine RQ.seg 2 (pc' := 4) (L' := [some (.ref 80), some (.ref 87), some (.int (iI i))]) (st' := [.ref 87, .int (iI i)]) (g1 := (HW (usc sc 8064 (sc 8064 + i)) (usc ar 87 f) tx oc rl ou tl, q)) rfl ?_
    refine RQ.alen rfl rfl ?_
    refine RQ.if2 (a := i) (b := 4) rfl rfl rfl rfl (by omega) (by omega) (fun (q : 4 ≤ i) => absurd q (show ¬ 4 ≤ i from by omega)) (fun _ => ?_)
    refine RQ.seg 6 (pc' := 18) (L' := [some (.ref 80), some (.ref 87), some (.int (iI i))]) (st' := [.int (iI (sc 8064 + i)), .ref 116, .int (iI i), .ref 87]) (g1 := (HW (usc sc 8064 (sc 8064 + i)) (usc ar 87 f) tx oc rl ou tl, q)) rfl ?_
    refine RQ.iald (z := (sc 8064 + i)) rfl rfl rfl (by omega) (by decide) ?_
    refine RQ.iast (z := i) (v := ((ar 116) (sc 8064 + i))) (g1 := (HW (usc sc 8064 (sc 8064 + i)) (usc ar 87 (usz f i ((ar 116) (sc 8064 + i)))) tx oc rl ou tl, q)) rfl rfl rfl rfl (by omega) (by decide) (HWa_87 (by funext j; unfold usc; cases hb : Nat.beq j 87 <;> first | rfl | (rw [Nat.eq_of_beq_eq_true hb]; rfl))) ?_
    refine RQ.seg 5 (pc' := 27) (L' := [some (.ref 80), some (.ref 87), some (.int (iI i))]) (st' := [.int ((iI (sc 8064 + i)) + (iI 1)), .ref 80]) (g1 := (HW (usc sc 8064 (sc 8064 + i)) (usc ar 87 (usz f i ((ar 116) (sc 8064 + i)))) tx oc rl ou tl, q)) rfl ?_
    refine RQ.to (L' := [some (.ref 80), some (.ref 87), some (.int (iI i))]) (st' := [.int (iI (sc 8064 + i + 1)), .ref 80]) rfl (by simp only [iI_add, iI_sub, iI_mul, iI_neg]) ?_
    refine RQ.seg 3 (pc' := 2) (L' := [some (.ref 80), some (.ref 87), some (.int ((iI i) + (iI 1)))]) (st' := []) (g1 := (HW (usc sc 8064 (sc 8064 + i + 1)) (usc ar 87 (usz f i ((ar 116) (sc 8064 + i)))) tx oc rl ou tl, q)) rfl ?_
    refine RQ.to (L' := [some (.ref 80), some (.ref 87), some (.int (iI (i + 1)))]) (st' := []) (by simp only [iI_add, iI_sub, iI_mul, iI_neg]) rfl ?_
    rw [show sc 8064 + i + 1 = sc 8064 + (i + 1) by omega]
    refine m_bring87_l hp hk m (i + 1) _ (by omega) (fun k k0 k1 => ?_)
    by_cases e : k = i
    · subst e; exact usz_s _ _ _
    · rw [usz_n e]; exact hf k k0 (by omega)
theorem m_bring87 {K : PK} {d : Nat} {sc : Nat → Int} {ar : Nat → Int → Int} {tx oc : Nat} {rl : Nat → Option Nat} {ou : Nat → Int64} {tl : List PO} {q : Nat × Nat} (hp : 0 ≤ sc 8064 ∧ sc 8064 + 4 ≤ 286) : CQ K (d + 1) 232 [.ref 80, .ref 87] (HW sc ar tx oc rl ou tl, q) (fun r g' => r = none ∧ ∃ f, g' = (HW (usc sc 8064 (sc 8064 + 4)) (usc ar 87 f) tx oc rl ou tl, q) ∧ (∀ k, 0 ≤ k → k < 4 → f k = ar 116 (sc 8064 + k))) := by
  refine CQ.of (own := 11) (n := 3) (ini := false) (rt := none) (cd := cd232) (by decide +kernel) rfl (by decide +kernel) rfl (Nat.le_of_ble_eq_true rfl) ?_
  refine RQ.seg 2 (pc' := 2) (L' := [some (.ref 80), some (.ref 87), some (.int (iI 0))]) (st' := []) (g1 := (HW sc ar tx oc rl ou tl, q)) rfl ?_
  refine RQ.hp (g1 := (HW (usc sc 8064 (sc 8064 + 0)) (usc ar 87 (ar 87)) tx oc rl ou tl, q)) (HW_e (by rw [Int.add_zero]; exact (usc_id sc 8064).symm) (usc_id ar 87).symm) ?_
  exact m_bring87_l hp (fun f hf => ⟨rfl, f, rfl, hf⟩) 4 0 (ar 87) (by omega) (fun k k0 k1 => absurd k1 (by omega))
theorem m_keep111_l {K : PK} {d : Nat} {sc : Nat → Int} {ar : Nat → Int → Int} {tx oc : Nat} {rl : Nat → Option Nat} {ou : Nat → Int64} {tl : List PO} {q : Nat × Nat} {Q : Option Value → PG → Prop} (hp : 0 ≤ sc 8064 ∧ sc 8064 + 10 ≤ 286) (hk : ∀ f : Int → Int, (∀ k, 0 ≤ k → k < 286 → f k = (if sc 8064 ≤ k ∧ k < sc 8064 + 10 then ar 111 (k - sc 8064) else ar 116 k)) → Q none (HW (usc sc 8064 (sc 8064 + 10)) (usc ar 116 f) tx oc rl ou tl, q)) : ∀ (m : Nat) (i : Int) (f : Int → Int) (hm : 0 ≤ i ∧ i + m = 10) (hf : (∀ k, 0 ≤ k → k < 286 → f k = (if sc 8064 ≤ k ∧ k < sc 8064 + i then ar 111 (k - sc 8064) else ar 116 k))), RQ K (d + 0) 11 false none cd231 2 [some (.ref 80), some (.ref 111), some (.int (iI i))] [] (HW (usc sc 8064 (sc 8064 + i)) (usc ar 116 f) tx oc rl ou tl, q) Q
  | 0, i, f, hm, hf => by
    refine RQ.seg 2 (pc' := 4) (L' := [some (.ref 80), some (.ref 111), some (.int (iI i))]) (st' := [.ref 111, .int (iI i)]) (g1 := (HW (usc sc 8064 (sc 8064 + i)) (usc ar 116 f) tx oc rl ou tl, q)) rfl ?_
    refine RQ.alen rfl rfl ?_
    refine RQ.if2 (a := i) (b := 10) rfl rfl rfl rfl (by omega) (by omega) (fun _ => ?_) (fun (q : ¬ 10 ≤ i) => absurd (show 10 ≤ i from by omega) q)
    refine RQ.ret rfl rfl ?_
    obtain rfl : i = 10 := by omega
    exact hk f hf
  | m + 1, i, f, hm, hf => by
    refine RQ.seg 2 (pc' := 4) (L' := [some (.ref 80), some (.ref 111), some (.int (iI i))]) (st' := [.ref 111, .int (iI i)]) (g1 := (HW (usc sc 8064 (sc 8064 + i)) (usc ar 116 f) tx oc rl ou tl, q)) rfl ?_
    refine RQ.alen rfl rfl ?_
    refine RQ.if2 (a := i) (b := 10) rfl rfl rfl rfl (by omega) (by omega) (fun (q : 10 ≤ i) => absurd q (show ¬ 10 ≤ i from by omega)) (fun _ => ?_)
    refine RQ.seg 6 (pc' := 18) (L' := [some (.ref 80), some (.ref 111), some (.int (iI i))]) (st' := [.int (iI i), .ref 111, .int (iI (sc 8064 + i)), .ref 116]) (g1 := (HW (usc sc 8064 (sc 8064 + i)) (usc ar 116 f) tx oc rl ou tl, q)) rfl ?_
    refine RQ.iald (z := i) rfl rfl rfl (by omega) (by decide) ?_
    refine RQ.iast (z := (sc 8064 + i)) (v := ((ar 111) i)) (g1 := (HW (usc sc 8064 (sc 8064 + i)) (usc ar 116 (usz f (sc 8064 + i) ((ar 111) i))) tx oc rl ou tl, q)) rfl rfl rfl rfl (by omega) (by decide) (HWa_116 (by funext j; unfold usc; cases hb : Nat.beq j 116 <;> first | rfl | (rw [Nat.eq_of_beq_eq_true hb]; rfl))) ?_
    refine RQ.seg 5 (pc' := 27) (L' := [some (.ref 80), some (.ref 111), some (.int (iI i))]) (st' := [.int ((iI (sc 8064 + i)) + (iI 1)), .ref 80]) (g1 := (HW (usc sc 8064 (sc 8064 + i)) (usc ar 116 (usz f (sc 8064 + i) ((ar 111) i))) tx oc rl ou tl, q)) rfl ?_
    refine RQ.to (L' := [some (.ref 80), some (.ref 111), some (.int (iI i))]) (st' := [.int (iI (sc 8064 + i + 1)), .ref 80]) rfl (by simp only [iI_add, iI_sub, iI_mul, iI_neg]) ?_
    refine RQ.seg 3 (pc' := 2) (L' := [some (.ref 80), some (.ref 111), some (.int ((iI i) + (iI 1)))]) (st' := []) (g1 := (HW (usc sc 8064 (sc 8064 + i + 1)) (usc ar 116 (usz f (sc 8064 + i) ((ar 111) i))) tx oc rl ou tl, q)) rfl ?_
    refine RQ.to (L' := [some (.ref 80), some (.ref 111), some (.int (iI (i + 1)))]) (st' := []) (by simp only [iI_add, iI_sub, iI_mul, iI_neg]) rfl ?_
    rw [show sc 8064 + i + 1 = sc 8064 + (i + 1) by omega]
    refine m_keep111_l hp hk m (i + 1) _ (by omega) (fun k k0 k1 => ?_)
    by_cases e : k = sc 8064 + i
    · subst e; rw [usz_s, if_pos (by omega), show sc 8064 + i - sc 8064 = i by omega]
    · rw [usz_n e, hf k k0 k1]; by_cases e2 : sc 8064 ≤ k ∧ k < sc 8064 + i
      · rw [if_pos e2, if_pos (by omega)]
      · rw [if_neg e2, if_neg (by omega)]
theorem m_keep111 {K : PK} {d : Nat} {sc : Nat → Int} {ar : Nat → Int → Int} {tx oc : Nat} {rl : Nat → Option Nat} {ou : Nat → Int64} {tl : List PO} {q : Nat × Nat} (hp : 0 ≤ sc 8064 ∧ sc 8064 + 10 ≤ 286) : CQ K (d + 1) 231 [.ref 80, .ref 111] (HW sc ar tx oc rl ou tl, q) (fun r g' => r = none ∧ ∃ f, g' = (HW (usc sc 8064 (sc 8064 + 10)) (usc ar 116 f) tx oc rl ou tl, q) ∧ (∀ k, 0 ≤ k → k < 286 → f k = (if sc 8064 ≤ k ∧ k < sc 8064 + 10 then ar 111 (k - sc 8064) else ar 116 k))) := by
  refine CQ.of (own := 11) (n := 3) (ini := false) (rt := none) (cd := cd231) (by decide +kernel) rfl (by decide +kernel) rfl (Nat.le_of_ble_eq_true rfl) ?_
  refine RQ.seg 2 (pc' := 2) (L' := [some (.ref 80), some (.ref 111), some (.int (iI 0))]) (st' := []) (g1 := (HW sc ar tx oc rl ou tl, q)) rfl ?_
  refine RQ.hp (g1 := (HW (usc sc 8064 (sc 8064 + 0)) (usc ar 116 (ar 116)) tx oc rl ou tl, q)) (HW_e (by rw [Int.add_zero]; exact (usc_id sc 8064).symm) (usc_id ar 116).symm) ?_
  exact m_keep111_l hp (fun f hf => ⟨rfl, f, rfl, hf⟩) 10 0 (ar 116) (by omega) (fun k k0 k1 => (if_neg (by omega)).symm)
theorem m_bring111_l {K : PK} {d : Nat} {sc : Nat → Int} {ar : Nat → Int → Int} {tx oc : Nat} {rl : Nat → Option Nat} {ou : Nat → Int64} {tl : List PO} {q : Nat × Nat} {Q : Option Value → PG → Prop} (hp : 0 ≤ sc 8064 ∧ sc 8064 + 10 ≤ 286) (hk : ∀ f : Int → Int, (∀ k, 0 ≤ k → k < 10 → f k = ar 116 (sc 8064 + k)) → Q none (HW (usc sc 8064 (sc 8064 + 10)) (usc ar 111 f) tx oc rl ou tl, q)) : ∀ (m : Nat) (i : Int) (f : Int → Int) (hm : 0 ≤ i ∧ i + m = 10) (hf : (∀ k, 0 ≤ k → k < i → f k = ar 116 (sc 8064 + k))), RQ K (d + 0) 11 false none cd232 2 [some (.ref 80), some (.ref 111), some (.int (iI i))] [] (HW (usc sc 8064 (sc 8064 + i)) (usc ar 111 f) tx oc rl ou tl, q) Q
  | 0, i, f, hm, hf => by
    refine RQ.seg 2 (pc' := 4) (L' := [some (.ref 80), some (.ref 111), some (.int (iI i))]) (st' := [.ref 111, .int (iI i)]) (g1 := (HW (usc sc 8064 (sc 8064 + i)) (usc ar 111 f) tx oc rl ou tl, q)) rfl ?_
    refine RQ.alen rfl rfl ?_
    refine RQ.if2 (a := i) (b := 10) rfl rfl rfl rfl (by omega) (by omega) (fun _ => ?_) (fun (q : ¬ 10 ≤ i) => absurd (show 10 ≤ i from by omega) q)
    refine RQ.ret rfl rfl ?_
    obtain rfl : i = 10 := by omega
    exact hk f hf
  | m + 1, i, f, hm, hf => by
    refine RQ.seg 2 (pc' := 4) (L' := [some (.ref 80), some (.ref 111), some (.int (iI i))]) (st' := [.ref 111, .int (iI i)]) (g1 := (HW (usc sc 8064 (sc 8064 + i)) (usc ar 111 f) tx oc rl ou tl, q)) rfl ?_
    refine RQ.alen rfl rfl ?_
    refine RQ.if2 (a := i) (b := 10) rfl rfl rfl rfl (by omega) (by omega) (fun (q : 10 ≤ i) => absurd q (show ¬ 10 ≤ i from by omega)) (fun _ => ?_)
    refine RQ.seg 6 (pc' := 18) (L' := [some (.ref 80), some (.ref 111), some (.int (iI i))]) (st' := [.int (iI (sc 8064 + i)), .ref 116, .int (iI i), .ref 111]) (g1 := (HW (usc sc 8064 (sc 8064 + i)) (usc ar 111 f) tx oc rl ou tl, q)) rfl ?_
    refine RQ.iald (z := (sc 8064 + i)) rfl rfl rfl (by omega) (by decide) ?_
    refine RQ.iast (z := i) (v := ((ar 116) (sc 8064 + i))) (g1 := (HW (usc sc 8064 (sc 8064 + i)) (usc ar 111 (usz f i ((ar 116) (sc 8064 + i)))) tx oc rl ou tl, q)) rfl rfl rfl rfl (by omega) (by decide) (HWa_111 (by funext j; unfold usc; cases hb : Nat.beq j 111 <;> first | rfl | (rw [Nat.eq_of_beq_eq_true hb]; rfl))) ?_
    refine RQ.seg 5 (pc' := 27) (L' := [some (.ref 80), some (.ref 111), some (.int (iI i))]) (st' := [.int ((iI (sc 8064 + i)) + (iI 1)), .ref 80]) (g1 := (HW (usc sc 8064 (sc 8064 + i)) (usc ar 111 (usz f i ((ar 116) (sc 8064 + i)))) tx oc rl ou tl, q)) rfl ?_
    refine RQ.to (L' := [some (.ref 80), some (.ref 111), some (.int (iI i))]) (st' := [.int (iI (sc 8064 + i + 1)), .ref 80]) rfl (by simp only [iI_add, iI_sub, iI_mul, iI_neg]) ?_
    refine RQ.seg 3 (pc' := 2) (L' := [some (.ref 80), some (.ref 111), some (.int ((iI i) + (iI 1)))]) (st' := []) (g1 := (HW (usc sc 8064 (sc 8064 + i + 1)) (usc ar 111 (usz f i ((ar 116) (sc 8064 + i)))) tx oc rl ou tl, q)) rfl ?_
    refine RQ.to (L' := [some (.ref 80), some (.ref 111), some (.int (iI (i + 1)))]) (st' := []) (by simp only [iI_add, iI_sub, iI_mul, iI_neg]) rfl ?_
    rw [show sc 8064 + i + 1 = sc 8064 + (i + 1) by omega]
    refine m_bring111_l hp hk m (i + 1) _ (by omega) (fun k k0 k1 => ?_)
    by_cases e : k = i
    · subst e; exact usz_s _ _ _
    · rw [usz_n e]; exact hf k k0 (by omega)
theorem m_bring111 {K : PK} {d : Nat} {sc : Nat → Int} {ar : Nat → Int → Int} {tx oc : Nat} {rl : Nat → Option Nat} {ou : Nat → Int64} {tl : List PO} {q : Nat × Nat} (hp : 0 ≤ sc 8064 ∧ sc 8064 + 10 ≤ 286) : CQ K (d + 1) 232 [.ref 80, .ref 111] (HW sc ar tx oc rl ou tl, q) (fun r g' => r = none ∧ ∃ f, g' = (HW (usc sc 8064 (sc 8064 + 10)) (usc ar 111 f) tx oc rl ou tl, q) ∧ (∀ k, 0 ≤ k → k < 10 → f k = ar 116 (sc 8064 + k))) := by
  refine CQ.of (own := 11) (n := 3) (ini := false) (rt := none) (cd := cd232) (by decide +kernel) rfl (by decide +kernel) rfl (Nat.le_of_ble_eq_true rfl) ?_
  refine RQ.seg 2 (pc' := 2) (L' := [some (.ref 80), some (.ref 111), some (.int (iI 0))]) (st' := []) (g1 := (HW sc ar tx oc rl ou tl, q)) rfl ?_
  refine RQ.hp (g1 := (HW (usc sc 8064 (sc 8064 + 0)) (usc ar 111 (ar 111)) tx oc rl ou tl, q)) (HW_e (by rw [Int.add_zero]; exact (usc_id sc 8064).symm) (usc_id ar 111).symm) ?_
  exact m_bring111_l hp (fun f hf => ⟨rfl, f, rfl, hf⟩) 10 0 (ar 111) (by omega) (fun k k0 k1 => absurd k1 (by omega))
theorem m_keep112_l {K : PK} {d : Nat} {sc : Nat → Int} {ar : Nat → Int → Int} {tx oc : Nat} {rl : Nat → Option Nat} {ou : Nat → Int64} {tl : List PO} {q : Nat × Nat} {Q : Option Value → PG → Prop} (hp : 0 ≤ sc 8064 ∧ sc 8064 + 10 ≤ 286) (hk : ∀ f : Int → Int, (∀ k, 0 ≤ k → k < 286 → f k = (if sc 8064 ≤ k ∧ k < sc 8064 + 10 then ar 112 (k - sc 8064) else ar 116 k)) → Q none (HW (usc sc 8064 (sc 8064 + 10)) (usc ar 116 f) tx oc rl ou tl, q)) : ∀ (m : Nat) (i : Int) (f : Int → Int) (hm : 0 ≤ i ∧ i + m = 10) (hf : (∀ k, 0 ≤ k → k < 286 → f k = (if sc 8064 ≤ k ∧ k < sc 8064 + i then ar 112 (k - sc 8064) else ar 116 k))), RQ K (d + 0) 11 false none cd231 2 [some (.ref 80), some (.ref 112), some (.int (iI i))] [] (HW (usc sc 8064 (sc 8064 + i)) (usc ar 116 f) tx oc rl ou tl, q) Q
  | 0, i, f, hm, hf => by
    refine RQ.seg 2 (pc' := 4) (L' := [some (.ref 80), some (.ref 112), some (.int (iI i))]) (st' := [.ref 112, .int (iI i)]) (g1 := (HW (usc sc 8064 (sc 8064 + i)) (usc ar 116 f) tx oc rl ou tl, q)) rfl ?_
    refine RQ.alen rfl rfl ?_
    refine RQ.if2 (a := i) (b := 10) rfl rfl rfl rfl (by omega) (by omega) (fun _ => ?_) (fun (q : ¬ 10 ≤ i) => absurd (show 10 ≤ i from by omega) q)
    refine RQ.ret rfl rfl ?_
    obtain rfl : i = 10 := by omega
    exact hk f hf
  | m + 1, i, f, hm, hf => by
    refine RQ.seg 2 (pc' := 4) (L' := [some (.ref 80), some (.ref 112), some (.int (iI i))]) (st' := [.ref 112, .int (iI i)]) (g1 := (HW (usc sc 8064 (sc 8064 + i)) (usc ar 116 f) tx oc rl ou tl, q)) rfl ?_
    refine RQ.alen rfl rfl ?_
    refine RQ.if2 (a := i) (b := 10) rfl rfl rfl rfl (by omega) (by omega) (fun (q : 10 ≤ i) => absurd q (show ¬ 10 ≤ i from by omega)) (fun _ => ?_)
    refine RQ.seg 6 (pc' := 18) (L' := [some (.ref 80), some (.ref 112), some (.int (iI i))]) (st' := [.int (iI i), .ref 112, .int (iI (sc 8064 + i)), .ref 116]) (g1 := (HW (usc sc 8064 (sc 8064 + i)) (usc ar 116 f) tx oc rl ou tl, q)) rfl ?_
    refine RQ.iald (z := i) rfl rfl rfl (by omega) (by decide) ?_
    refine RQ.iast (z := (sc 8064 + i)) (v := ((ar 112) i)) (g1 := (HW (usc sc 8064 (sc 8064 + i)) (usc ar 116 (usz f (sc 8064 + i) ((ar 112) i))) tx oc rl ou tl, q)) rfl rfl rfl rfl (by omega) (by decide) (HWa_116 (by funext j; unfold usc; cases hb : Nat.beq j 116 <;> first | rfl | (rw [Nat.eq_of_beq_eq_true hb]; rfl))) ?_
    refine RQ.seg 5 (pc' := 27) (L' := [some (.ref 80), some (.ref 112), some (.int (iI i))]) (st' := [.int ((iI (sc 8064 + i)) + (iI 1)), .ref 80]) (g1 := (HW (usc sc 8064 (sc 8064 + i)) (usc ar 116 (usz f (sc 8064 + i) ((ar 112) i))) tx oc rl ou tl, q)) rfl ?_
    refine RQ.to (L' := [some (.ref 80), some (.ref 112), some (.int (iI i))]) (st' := [.int (iI (sc 8064 + i + 1)), .ref 80]) rfl (by simp only [iI_add, iI_sub, iI_mul, iI_neg]) ?_
    refine RQ.seg 3 (pc' := 2) (L' := [some (.ref 80), some (.ref 112), some (.int ((iI i) + (iI 1)))]) (st' := []) (g1 := (HW (usc sc 8064 (sc 8064 + i + 1)) (usc ar 116 (usz f (sc 8064 + i) ((ar 112) i))) tx oc rl ou tl, q)) rfl ?_
    refine RQ.to (L' := [some (.ref 80), some (.ref 112), some (.int (iI (i + 1)))]) (st' := []) (by simp only [iI_add, iI_sub, iI_mul, iI_neg]) rfl ?_
    rw [show sc 8064 + i + 1 = sc 8064 + (i + 1) by omega]
    refine m_keep112_l hp hk m (i + 1) _ (by omega) (fun k k0 k1 => ?_)
    by_cases e : k = sc 8064 + i
    · subst e; rw [usz_s, if_pos (by omega), show sc 8064 + i - sc 8064 = i by omega]
    · rw [usz_n e, hf k k0 k1]; by_cases e2 : sc 8064 ≤ k ∧ k < sc 8064 + i
      · rw [if_pos e2, if_pos (by omega)]
      · rw [if_neg e2, if_neg (by omega)]
theorem m_keep112 {K : PK} {d : Nat} {sc : Nat → Int} {ar : Nat → Int → Int} {tx oc : Nat} {rl : Nat → Option Nat} {ou : Nat → Int64} {tl : List PO} {q : Nat × Nat} (hp : 0 ≤ sc 8064 ∧ sc 8064 + 10 ≤ 286) : CQ K (d + 1) 231 [.ref 80, .ref 112] (HW sc ar tx oc rl ou tl, q) (fun r g' => r = none ∧ ∃ f, g' = (HW (usc sc 8064 (sc 8064 + 10)) (usc ar 116 f) tx oc rl ou tl, q) ∧ (∀ k, 0 ≤ k → k < 286 → f k = (if sc 8064 ≤ k ∧ k < sc 8064 + 10 then ar 112 (k - sc 8064) else ar 116 k))) := by
  refine CQ.of (own := 11) (n := 3) (ini := false) (rt := none) (cd := cd231) (by decide +kernel) rfl (by decide +kernel) rfl (Nat.le_of_ble_eq_true rfl) ?_
  refine RQ.seg 2 (pc' := 2) (L' := [some (.ref 80), some (.ref 112), some (.int (iI 0))]) (st' := []) (g1 := (HW sc ar tx oc rl ou tl, q)) rfl ?_
  refine RQ.hp (g1 := (HW (usc sc 8064 (sc 8064 + 0)) (usc ar 116 (ar 116)) tx oc rl ou tl, q)) (HW_e (by rw [Int.add_zero]; exact (usc_id sc 8064).symm) (usc_id ar 116).symm) ?_
  exact m_keep112_l hp (fun f hf => ⟨rfl, f, rfl, hf⟩) 10 0 (ar 116) (by omega) (fun k k0 k1 => (if_neg (by omega)).symm)
theorem m_bring112_l {K : PK} {d : Nat} {sc : Nat → Int} {ar : Nat → Int → Int} {tx oc : Nat} {rl : Nat → Option Nat} {ou : Nat → Int64} {tl : List PO} {q : Nat × Nat} {Q : Option Value → PG → Prop} (hp : 0 ≤ sc 8064 ∧ sc 8064 + 10 ≤ 286) (hk : ∀ f : Int → Int, (∀ k, 0 ≤ k → k < 10 → f k = ar 116 (sc 8064 + k)) → Q none (HW (usc sc 8064 (sc 8064 + 10)) (usc ar 112 f) tx oc rl ou tl, q)) : ∀ (m : Nat) (i : Int) (f : Int → Int) (hm : 0 ≤ i ∧ i + m = 10) (hf : (∀ k, 0 ≤ k → k < i → f k = ar 116 (sc 8064 + k))), RQ K (d + 0) 11 false none cd232 2 [some (.ref 80), some (.ref 112), some (.int (iI i))] [] (HW (usc sc 8064 (sc 8064 + i)) (usc ar 112 f) tx oc rl ou tl, q) Q
  | 0, i, f, hm, hf => by
    refine RQ.seg 2 (pc' := 4) (L' := [some (.ref 80), some (.ref 112), some (.int (iI i))]) (st' := [.ref 112, .int (iI i)]) (g1 := (HW (usc sc 8064 (sc 8064 + i)) (usc ar 112 f) tx oc rl ou tl, q)) rfl ?_
    refine RQ.alen rfl rfl ?_
    refine RQ.if2 (a := i) (b := 10) rfl rfl rfl rfl (by omega) (by omega) (fun _ => ?_) (fun (q : ¬ 10 ≤ i) => absurd (show 10 ≤ i from by omega) q)
    refine RQ.ret rfl rfl ?_
    obtain rfl : i = 10 := by omega
    exact hk f hf
  | m + 1, i, f, hm, hf => by
    refine RQ.seg 2 (pc' := 4) (L' := [some (.ref 80), some (.ref 112), some (.int (iI i))]) (st' := [.ref 112, .int (iI i)]) (g1 := (HW (usc sc 8064 (sc 8064 + i)) (usc ar 112 f) tx oc rl ou tl, q)) rfl ?_
    refine RQ.alen rfl rfl ?_
    refine RQ.if2 (a := i) (b := 10) rfl rfl rfl rfl (by omega) (by omega) (fun (q : 10 ≤ i) => absurd q (show ¬ 10 ≤ i from by omega)) (fun _ => ?_)
    refine RQ.seg 6 (pc' := 18) (L' := [some (.ref 80), some (.ref 112), some (.int (iI i))]) (st' := [.int (iI (sc 8064 + i)), .ref 116, .int (iI i), .ref 112]) (g1 := (HW (usc sc 8064 (sc 8064 + i)) (usc ar 112 f) tx oc rl ou tl, q)) rfl ?_
    refine RQ.iald (z := (sc 8064 + i)) rfl rfl rfl (by omega) (by decide) ?_
    refine RQ.iast (z := i) (v := ((ar 116) (sc 8064 + i))) (g1 := (HW (usc sc 8064 (sc 8064 + i)) (usc ar 112 (usz f i ((ar 116) (sc 8064 + i)))) tx oc rl ou tl, q)) rfl rfl rfl rfl (by omega) (by decide) (HWa_112 (by funext j; unfold usc; cases hb : Nat.beq j 112 <;> first | rfl | (rw [Nat.eq_of_beq_eq_true hb]; rfl))) ?_
    refine RQ.seg 5 (pc' := 27) (L' := [some (.ref 80), some (.ref 112), some (.int (iI i))]) (st' := [.int ((iI (sc 8064 + i)) + (iI 1)), .ref 80]) (g1 := (HW (usc sc 8064 (sc 8064 + i)) (usc ar 112 (usz f i ((ar 116) (sc 8064 + i)))) tx oc rl ou tl, q)) rfl ?_
    refine RQ.to (L' := [some (.ref 80), some (.ref 112), some (.int (iI i))]) (st' := [.int (iI (sc 8064 + i + 1)), .ref 80]) rfl (by simp only [iI_add, iI_sub, iI_mul, iI_neg]) ?_
    refine RQ.seg 3 (pc' := 2) (L' := [some (.ref 80), some (.ref 112), some (.int ((iI i) + (iI 1)))]) (st' := []) (g1 := (HW (usc sc 8064 (sc 8064 + i + 1)) (usc ar 112 (usz f i ((ar 116) (sc 8064 + i)))) tx oc rl ou tl, q)) rfl ?_
    refine RQ.to (L' := [some (.ref 80), some (.ref 112), some (.int (iI (i + 1)))]) (st' := []) (by simp only [iI_add, iI_sub, iI_mul, iI_neg]) rfl ?_
    rw [show sc 8064 + i + 1 = sc 8064 + (i + 1) by omega]
    refine m_bring112_l hp hk m (i + 1) _ (by omega) (fun k k0 k1 => ?_)
    by_cases e : k = i
    · subst e; exact usz_s _ _ _
    · rw [usz_n e]; exact hf k k0 (by omega)
theorem m_bring112 {K : PK} {d : Nat} {sc : Nat → Int} {ar : Nat → Int → Int} {tx oc : Nat} {rl : Nat → Option Nat} {ou : Nat → Int64} {tl : List PO} {q : Nat × Nat} (hp : 0 ≤ sc 8064 ∧ sc 8064 + 10 ≤ 286) : CQ K (d + 1) 232 [.ref 80, .ref 112] (HW sc ar tx oc rl ou tl, q) (fun r g' => r = none ∧ ∃ f, g' = (HW (usc sc 8064 (sc 8064 + 10)) (usc ar 112 f) tx oc rl ou tl, q) ∧ (∀ k, 0 ≤ k → k < 10 → f k = ar 116 (sc 8064 + k))) := by
  refine CQ.of (own := 11) (n := 3) (ini := false) (rt := none) (cd := cd232) (by decide +kernel) rfl (by decide +kernel) rfl (Nat.le_of_ble_eq_true rfl) ?_
  refine RQ.seg 2 (pc' := 2) (L' := [some (.ref 80), some (.ref 112), some (.int (iI 0))]) (st' := []) (g1 := (HW sc ar tx oc rl ou tl, q)) rfl ?_
  refine RQ.hp (g1 := (HW (usc sc 8064 (sc 8064 + 0)) (usc ar 112 (ar 112)) tx oc rl ou tl, q)) (HW_e (by rw [Int.add_zero]; exact (usc_id sc 8064).symm) (usc_id ar 112).symm) ?_
  exact m_bring112_l hp (fun f hf => ⟨rfl, f, rfl, hf⟩) 10 0 (ar 112) (by omega) (fun k k0 k1 => absurd k1 (by omega))
theorem m_keep113_l {K : PK} {d : Nat} {sc : Nat → Int} {ar : Nat → Int → Int} {tx oc : Nat} {rl : Nat → Option Nat} {ou : Nat → Int64} {tl : List PO} {q : Nat × Nat} {Q : Option Value → PG → Prop} (hp : 0 ≤ sc 8064 ∧ sc 8064 + 10 ≤ 286) (hk : ∀ f : Int → Int, (∀ k, 0 ≤ k → k < 286 → f k = (if sc 8064 ≤ k ∧ k < sc 8064 + 10 then ar 113 (k - sc 8064) else ar 116 k)) → Q none (HW (usc sc 8064 (sc 8064 + 10)) (usc ar 116 f) tx oc rl ou tl, q)) : ∀ (m : Nat) (i : Int) (f : Int → Int) (hm : 0 ≤ i ∧ i + m = 10) (hf : (∀ k, 0 ≤ k → k < 286 → f k = (if sc 8064 ≤ k ∧ k < sc 8064 + i then ar 113 (k - sc 8064) else ar 116 k))), RQ K (d + 0) 11 false none cd231 2 [some (.ref 80), some (.ref 113), some (.int (iI i))] [] (HW (usc sc 8064 (sc 8064 + i)) (usc ar 116 f) tx oc rl ou tl, q) Q
  | 0, i, f, hm, hf => by
    refine RQ.seg 2 (pc' := 4) (L' := [some (.ref 80), some (.ref 113), some (.int (iI i))]) (st' := [.ref 113, .int (iI i)]) (g1 := (HW (usc sc 8064 (sc 8064 + i)) (usc ar 116 f) tx oc rl ou tl, q)) rfl ?_
    refine RQ.alen rfl rfl ?_
    refine RQ.if2 (a := i) (b := 10) rfl rfl rfl rfl (by omega) (by omega) (fun _ => ?_) (fun (q : ¬ 10 ≤ i) => absurd (show 10 ≤ i from by omega) q)
    refine RQ.ret rfl rfl ?_
    obtain rfl : i = 10 := by omega
    exact hk f hf
  | m + 1, i, f, hm, hf => by
    refine RQ.seg 2 (pc' := 4) (L' := [some (.ref 80), some (.ref 113), some (.int (iI i))]) (st' := [.ref 113, .int (iI i)]) (g1 := (HW (usc sc 8064 (sc 8064 + i)) (usc ar 116 f) tx oc rl ou tl, q)) rfl ?_
    refine RQ.alen rfl rfl ?_
    refine RQ.if2 (a := i) (b := 10) rfl rfl rfl rfl (by omega) (by omega) (fun (q : 10 ≤ i) => absurd q (show ¬ 10 ≤ i from by omega)) (fun _ => ?_)
    refine RQ.seg 6 (pc' := 18) (L' := [some (.ref 80), some (.ref 113), some (.int (iI i))]) (st' := [.int (iI i), .ref 113, .int (iI (sc 8064 + i)), .ref 116]) (g1 := (HW (usc sc 8064 (sc 8064 + i)) (usc ar 116 f) tx oc rl ou tl, q)) rfl ?_
    refine RQ.iald (z := i) rfl rfl rfl (by omega) (by decide) ?_
    refine RQ.iast (z := (sc 8064 + i)) (v := ((ar 113) i)) (g1 := (HW (usc sc 8064 (sc 8064 + i)) (usc ar 116 (usz f (sc 8064 + i) ((ar 113) i))) tx oc rl ou tl, q)) rfl rfl rfl rfl (by omega) (by decide) (HWa_116 (by funext j; unfold usc; cases hb : Nat.beq j 116 <;> first | rfl | (rw [Nat.eq_of_beq_eq_true hb]; rfl))) ?_
    refine RQ.seg 5 (pc' := 27) (L' := [some (.ref 80), some (.ref 113), some (.int (iI i))]) (st' := [.int ((iI (sc 8064 + i)) + (iI 1)), .ref 80]) (g1 := (HW (usc sc 8064 (sc 8064 + i)) (usc ar 116 (usz f (sc 8064 + i) ((ar 113) i))) tx oc rl ou tl, q)) rfl ?_
    refine RQ.to (L' := [some (.ref 80), some (.ref 113), some (.int (iI i))]) (st' := [.int (iI (sc 8064 + i + 1)), .ref 80]) rfl (by simp only [iI_add, iI_sub, iI_mul, iI_neg]) ?_
    refine RQ.seg 3 (pc' := 2) (L' := [some (.ref 80), some (.ref 113), some (.int ((iI i) + (iI 1)))]) (st' := []) (g1 := (HW (usc sc 8064 (sc 8064 + i + 1)) (usc ar 116 (usz f (sc 8064 + i) ((ar 113) i))) tx oc rl ou tl, q)) rfl ?_
    refine RQ.to (L' := [some (.ref 80), some (.ref 113), some (.int (iI (i + 1)))]) (st' := []) (by simp only [iI_add, iI_sub, iI_mul, iI_neg]) rfl ?_
    rw [show sc 8064 + i + 1 = sc 8064 + (i + 1) by omega]
    refine m_keep113_l hp hk m (i + 1) _ (by omega) (fun k k0 k1 => ?_)
    by_cases e : k = sc 8064 + i
    · subst e; rw [usz_s, if_pos (by omega), show sc 8064 + i - sc 8064 = i by omega]
    · rw [usz_n e, hf k k0 k1]; by_cases e2 : sc 8064 ≤ k ∧ k < sc 8064 + i
      · rw [if_pos e2, if_pos (by omega)]
      · rw [if_neg e2, if_neg (by omega)]
theorem m_keep113 {K : PK} {d : Nat} {sc : Nat → Int} {ar : Nat → Int → Int} {tx oc : Nat} {rl : Nat → Option Nat} {ou : Nat → Int64} {tl : List PO} {q : Nat × Nat} (hp : 0 ≤ sc 8064 ∧ sc 8064 + 10 ≤ 286) : CQ K (d + 1) 231 [.ref 80, .ref 113] (HW sc ar tx oc rl ou tl, q) (fun r g' => r = none ∧ ∃ f, g' = (HW (usc sc 8064 (sc 8064 + 10)) (usc ar 116 f) tx oc rl ou tl, q) ∧ (∀ k, 0 ≤ k → k < 286 → f k = (if sc 8064 ≤ k ∧ k < sc 8064 + 10 then ar 113 (k - sc 8064) else ar 116 k))) := by
  refine CQ.of (own := 11) (n := 3) (ini := false) (rt := none) (cd := cd231) (by decide +kernel) rfl (by decide +kernel) rfl (Nat.le_of_ble_eq_true rfl) ?_
  refine RQ.seg 2 (pc' := 2) (L' := [some (.ref 80), some (.ref 113), some (.int (iI 0))]) (st' := []) (g1 := (HW sc ar tx oc rl ou tl, q)) rfl ?_
  refine RQ.hp (g1 := (HW (usc sc 8064 (sc 8064 + 0)) (usc ar 116 (ar 116)) tx oc rl ou tl, q)) (HW_e (by rw [Int.add_zero]; exact (usc_id sc 8064).symm) (usc_id ar 116).symm) ?_
  exact m_keep113_l hp (fun f hf => ⟨rfl, f, rfl, hf⟩) 10 0 (ar 116) (by omega) (fun k k0 k1 => (if_neg (by omega)).symm)
theorem m_bring113_l {K : PK} {d : Nat} {sc : Nat → Int} {ar : Nat → Int → Int} {tx oc : Nat} {rl : Nat → Option Nat} {ou : Nat → Int64} {tl : List PO} {q : Nat × Nat} {Q : Option Value → PG → Prop} (hp : 0 ≤ sc 8064 ∧ sc 8064 + 10 ≤ 286) (hk : ∀ f : Int → Int, (∀ k, 0 ≤ k → k < 10 → f k = ar 116 (sc 8064 + k)) → Q none (HW (usc sc 8064 (sc 8064 + 10)) (usc ar 113 f) tx oc rl ou tl, q)) : ∀ (m : Nat) (i : Int) (f : Int → Int) (hm : 0 ≤ i ∧ i + m = 10) (hf : (∀ k, 0 ≤ k → k < i → f k = ar 116 (sc 8064 + k))), RQ K (d + 0) 11 false none cd232 2 [some (.ref 80), some (.ref 113), some (.int (iI i))] [] (HW (usc sc 8064 (sc 8064 + i)) (usc ar 113 f) tx oc rl ou tl, q) Q
  | 0, i, f, hm, hf => by
    refine RQ.seg 2 (pc' := 4) (L' := [some (.ref 80), some (.ref 113), some (.int (iI i))]) (st' := [.ref 113, .int (iI i)]) (g1 := (HW (usc sc 8064 (sc 8064 + i)) (usc ar 113 f) tx oc rl ou tl, q)) rfl ?_
    refine RQ.alen rfl rfl ?_
    refine RQ.if2 (a := i) (b := 10) rfl rfl rfl rfl (by omega) (by omega) (fun _ => ?_) (fun (q : ¬ 10 ≤ i) => absurd (show 10 ≤ i from by omega) q)
    refine RQ.ret rfl rfl ?_
    obtain rfl : i = 10 := by omega
    exact hk f hf
  | m + 1, i, f, hm, hf => by
    refine RQ.seg 2 (pc' := 4) (L' := [some (.ref 80), some (.ref 113), some (.int (iI i))]) (st' := [.ref 113, .int (iI i)]) (g1 := (HW (usc sc 8064 (sc 8064 + i)) (usc ar 113 f) tx oc rl ou tl, q)) rfl ?_
    refine RQ.alen rfl rfl ?_
    refine RQ.if2 (a := i) (b := 10) rfl rfl rfl rfl (by omega) (by omega) (fun (q : 10 ≤ i) => absurd q (show ¬ 10 ≤ i from by omega)) (fun _ => ?_)
    refine RQ.seg 6 (pc' := 18) (L' := [some (.ref 80), some (.ref 113), some (.int (iI i))]) (st' := [.int (iI (sc 8064 + i)), .ref 116, .int (iI i), .ref 113]) (g1 := (HW (usc sc 8064 (sc 8064 + i)) (usc ar 113 f) tx oc rl ou tl, q)) rfl ?_
    refine RQ.iald (z := (sc 8064 + i)) rfl rfl rfl (by omega) (by decide) ?_
    refine RQ.iast (z := i) (v := ((ar 116) (sc 8064 + i))) (g1 := (HW (usc sc 8064 (sc 8064 + i)) (usc ar 113 (usz f i ((ar 116) (sc 8064 + i)))) tx oc rl ou tl, q)) rfl rfl rfl rfl (by omega) (by decide) (HWa_113 (by funext j; unfold usc; cases hb : Nat.beq j 113 <;> first | rfl | (rw [Nat.eq_of_beq_eq_true hb]; rfl))) ?_
    refine RQ.seg 5 (pc' := 27) (L' := [some (.ref 80), some (.ref 113), some (.int (iI i))]) (st' := [.int ((iI (sc 8064 + i)) + (iI 1)), .ref 80]) (g1 := (HW (usc sc 8064 (sc 8064 + i)) (usc ar 113 (usz f i ((ar 116) (sc 8064 + i)))) tx oc rl ou tl, q)) rfl ?_
    refine RQ.to (L' := [some (.ref 80), some (.ref 113), some (.int (iI i))]) (st' := [.int (iI (sc 8064 + i + 1)), .ref 80]) rfl (by simp only [iI_add, iI_sub, iI_mul, iI_neg]) ?_
    refine RQ.seg 3 (pc' := 2) (L' := [some (.ref 80), some (.ref 113), some (.int ((iI i) + (iI 1)))]) (st' := []) (g1 := (HW (usc sc 8064 (sc 8064 + i + 1)) (usc ar 113 (usz f i ((ar 116) (sc 8064 + i)))) tx oc rl ou tl, q)) rfl ?_
    refine RQ.to (L' := [some (.ref 80), some (.ref 113), some (.int (iI (i + 1)))]) (st' := []) (by simp only [iI_add, iI_sub, iI_mul, iI_neg]) rfl ?_
    rw [show sc 8064 + i + 1 = sc 8064 + (i + 1) by omega]
    refine m_bring113_l hp hk m (i + 1) _ (by omega) (fun k k0 k1 => ?_)
    by_cases e : k = i
    · subst e; exact usz_s _ _ _
    · rw [usz_n e]; exact hf k k0 (by omega)
theorem m_bring113 {K : PK} {d : Nat} {sc : Nat → Int} {ar : Nat → Int → Int} {tx oc : Nat} {rl : Nat → Option Nat} {ou : Nat → Int64} {tl : List PO} {q : Nat × Nat} (hp : 0 ≤ sc 8064 ∧ sc 8064 + 10 ≤ 286) : CQ K (d + 1) 232 [.ref 80, .ref 113] (HW sc ar tx oc rl ou tl, q) (fun r g' => r = none ∧ ∃ f, g' = (HW (usc sc 8064 (sc 8064 + 10)) (usc ar 113 f) tx oc rl ou tl, q) ∧ (∀ k, 0 ≤ k → k < 10 → f k = ar 116 (sc 8064 + k))) := by
  refine CQ.of (own := 11) (n := 3) (ini := false) (rt := none) (cd := cd232) (by decide +kernel) rfl (by decide +kernel) rfl (Nat.le_of_ble_eq_true rfl) ?_
  refine RQ.seg 2 (pc' := 2) (L' := [some (.ref 80), some (.ref 113), some (.int (iI 0))]) (st' := []) (g1 := (HW sc ar tx oc rl ou tl, q)) rfl ?_
  refine RQ.hp (g1 := (HW (usc sc 8064 (sc 8064 + 0)) (usc ar 113 (ar 113)) tx oc rl ou tl, q)) (HW_e (by rw [Int.add_zero]; exact (usc_id sc 8064).symm) (usc_id ar 113).symm) ?_
  exact m_bring113_l hp (fun f hf => ⟨rfl, f, rfl, hf⟩) 10 0 (ar 113) (by omega) (fun k k0 k1 => absurd k1 (by omega))
theorem m_keep114_l {K : PK} {d : Nat} {sc : Nat → Int} {ar : Nat → Int → Int} {tx oc : Nat} {rl : Nat → Option Nat} {ou : Nat → Int64} {tl : List PO} {q : Nat × Nat} {Q : Option Value → PG → Prop} (hp : 0 ≤ sc 8064 ∧ sc 8064 + 120 ≤ 286) (hk : ∀ f : Int → Int, (∀ k, 0 ≤ k → k < 286 → f k = (if sc 8064 ≤ k ∧ k < sc 8064 + 120 then ar 114 (k - sc 8064) else ar 116 k)) → Q none (HW (usc sc 8064 (sc 8064 + 120)) (usc ar 116 f) tx oc rl ou tl, q)) : ∀ (m : Nat) (i : Int) (f : Int → Int) (hm : 0 ≤ i ∧ i + m = 120) (hf : (∀ k, 0 ≤ k → k < 286 → f k = (if sc 8064 ≤ k ∧ k < sc 8064 + i then ar 114 (k - sc 8064) else ar 116 k))), RQ K (d + 0) 11 false none cd231 2 [some (.ref 80), some (.ref 114), some (.int (iI i))] [] (HW (usc sc 8064 (sc 8064 + i)) (usc ar 116 f) tx oc rl ou tl, q) Q
  | 0, i, f, hm, hf => by
    refine RQ.seg 2 (pc' := 4) (L' := [some (.ref 80), some (.ref 114), some (.int (iI i))]) (st' := [.ref 114, .int (iI i)]) (g1 := (HW (usc sc 8064 (sc 8064 + i)) (usc ar 116 f) tx oc rl ou tl, q)) rfl ?_
    refine RQ.alen rfl rfl ?_
    refine RQ.if2 (a := i) (b := 120) rfl rfl rfl rfl (by omega) (by omega) (fun _ => ?_) (fun (q : ¬ 120 ≤ i) => absurd (show 120 ≤ i from by omega) q)
    refine RQ.ret rfl rfl ?_
    obtain rfl : i = 120 := by omega
    exact hk f hf
  | m + 1, i, f, hm, hf => by
    refine RQ.seg 2 (pc' := 4) (L' := [some (.ref 80), some (.ref 114), some (.int (iI i))]) (st' := [.ref 114, .int (iI i)]) (g1 := (HW (usc sc 8064 (sc 8064 + i)) (usc ar 116 f) tx oc rl ou tl, q)) rfl ?_
    refine RQ.alen rfl rfl ?_
    refine RQ.if2 (a := i) (b := 120) rfl rfl rfl rfl (by omega) (by omega) (fun (q : 120 ≤ i) => absurd q (show ¬ 120 ≤ i from by omega)) (fun _ => ?_)
    refine RQ.seg 6 (pc' := 18) (L' := [some (.ref 80), some (.ref 114), some (.int (iI i))]) (st' := [.int (iI i), .ref 114, .int (iI (sc 8064 + i)), .ref 116]) (g1 := (HW (usc sc 8064 (sc 8064 + i)) (usc ar 116 f) tx oc rl ou tl, q)) rfl ?_
    refine RQ.iald (z := i) rfl rfl rfl (by omega) (by decide) ?_
    refine RQ.iast (z := (sc 8064 + i)) (v := ((ar 114) i)) (g1 := (HW (usc sc 8064 (sc 8064 + i)) (usc ar 116 (usz f (sc 8064 + i) ((ar 114) i))) tx oc rl ou tl, q)) rfl rfl rfl rfl (by omega) (by decide) (HWa_116 (by funext j; unfold usc; cases hb : Nat.beq j 116 <;> first | rfl | (rw [Nat.eq_of_beq_eq_true hb]; rfl))) ?_
    refine RQ.seg 5 (pc' := 27) (L' := [some (.ref 80), some (.ref 114), some (.int (iI i))]) (st' := [.int ((iI (sc 8064 + i)) + (iI 1)), .ref 80]) (g1 := (HW (usc sc 8064 (sc 8064 + i)) (usc ar 116 (usz f (sc 8064 + i) ((ar 114) i))) tx oc rl ou tl, q)) rfl ?_
    refine RQ.to (L' := [some (.ref 80), some (.ref 114), some (.int (iI i))]) (st' := [.int (iI (sc 8064 + i + 1)), .ref 80]) rfl (by simp only [iI_add, iI_sub, iI_mul, iI_neg]) ?_
    refine RQ.seg 3 (pc' := 2) (L' := [some (.ref 80), some (.ref 114), some (.int ((iI i) + (iI 1)))]) (st' := []) (g1 := (HW (usc sc 8064 (sc 8064 + i + 1)) (usc ar 116 (usz f (sc 8064 + i) ((ar 114) i))) tx oc rl ou tl, q)) rfl ?_
    refine RQ.to (L' := [some (.ref 80), some (.ref 114), some (.int (iI (i + 1)))]) (st' := []) (by simp only [iI_add, iI_sub, iI_mul, iI_neg]) rfl ?_
    rw [show sc 8064 + i + 1 = sc 8064 + (i + 1) by omega]
    refine m_keep114_l hp hk m (i + 1) _ (by omega) (fun k k0 k1 => ?_)
    by_cases e : k = sc 8064 + i
    · subst e; rw [usz_s, if_pos (by omega), show sc 8064 + i - sc 8064 = i by omega]
    · rw [usz_n e, hf k k0 k1]; by_cases e2 : sc 8064 ≤ k ∧ k < sc 8064 + i
      · rw [if_pos e2, if_pos (by omega)]
      · rw [if_neg e2, if_neg (by omega)]
theorem m_keep114 {K : PK} {d : Nat} {sc : Nat → Int} {ar : Nat → Int → Int} {tx oc : Nat} {rl : Nat → Option Nat} {ou : Nat → Int64} {tl : List PO} {q : Nat × Nat} (hp : 0 ≤ sc 8064 ∧ sc 8064 + 120 ≤ 286) : CQ K (d + 1) 231 [.ref 80, .ref 114] (HW sc ar tx oc rl ou tl, q) (fun r g' => r = none ∧ ∃ f, g' = (HW (usc sc 8064 (sc 8064 + 120)) (usc ar 116 f) tx oc rl ou tl, q) ∧ (∀ k, 0 ≤ k → k < 286 → f k = (if sc 8064 ≤ k ∧ k < sc 8064 + 120 then ar 114 (k - sc 8064) else ar 116 k))) := by
  refine CQ.of (own := 11) (n := 3) (ini := false) (rt := none) (cd := cd231) (by decide +kernel) rfl (by decide +kernel) rfl (Nat.le_of_ble_eq_true rfl) ?_
  refine RQ.seg 2 (pc' := 2) (L' := [some (.ref 80), some (.ref 114), some (.int (iI 0))]) (st' := []) (g1 := (HW sc ar tx oc rl ou tl, q)) rfl ?_
  refine RQ.hp (g1 := (HW (usc sc 8064 (sc 8064 + 0)) (usc ar 116 (ar 116)) tx oc rl ou tl, q)) (HW_e (by rw [Int.add_zero]; exact (usc_id sc 8064).symm) (usc_id ar 116).symm) ?_
  exact m_keep114_l hp (fun f hf => ⟨rfl, f, rfl, hf⟩) 120 0 (ar 116) (by omega) (fun k k0 k1 => (if_neg (by omega)).symm)
theorem m_bring114_l {K : PK} {d : Nat} {sc : Nat → Int} {ar : Nat → Int → Int} {tx oc : Nat} {rl : Nat → Option Nat} {ou : Nat → Int64} {tl : List PO} {q : Nat × Nat} {Q : Option Value → PG → Prop} (hp : 0 ≤ sc 8064 ∧ sc 8064 + 120 ≤ 286) (hk : ∀ f : Int → Int, (∀ k, 0 ≤ k → k < 120 → f k = ar 116 (sc 8064 + k)) → Q none (HW (usc sc 8064 (sc 8064 + 120)) (usc ar 114 f) tx oc rl ou tl, q)) : ∀ (m : Nat) (i : Int) (f : Int → Int) (hm : 0 ≤ i ∧ i + m = 120) (hf : (∀ k, 0 ≤ k → k < i → f k = ar 116 (sc 8064 + k))), RQ K (d + 0) 11 false none cd232 2 [some (.ref 80), some (.ref 114), some (.int (iI i))] [] (HW (usc sc 8064 (sc 8064 + i)) (usc ar 114 f) tx oc rl ou tl, q) Q
  | 0, i, f, hm, hf => by
    refine RQ.seg 2 (pc' := 4) (L' := [some (.ref 80), some (.ref 114), some (.int (iI i))]) (st' := [.ref 114, .int (iI i)]) (g1 := (HW (usc sc 8064 (sc 8064 + i)) (usc ar 114 f) tx oc rl ou tl, q)) rfl ?_
    refine RQ.alen rfl rfl ?_
    refine RQ.if2 (a := i) (b := 120) rfl rfl rfl rfl (by omega) (by omega) (fun _ => ?_) (fun (q : ¬ 120 ≤ i) => absurd (show 120 ≤ i from by omega) q)
    refine RQ.ret rfl rfl ?_
    obtain rfl : i = 120 := by omega
    exact hk f hf
  | m + 1, i, f, hm, hf => by
    refine RQ.seg 2 (pc' := 4) (L' := [some (.ref 80), some (.ref 114), some (.int (iI i))]) (st' := [.ref 114, .int (iI i)]) (g1 := (HW (usc sc 8064 (sc 8064 + i)) (usc ar 114 f) tx oc rl ou tl, q)) rfl ?_
    refine RQ.alen rfl rfl ?_
    refine RQ.if2 (a := i) (b := 120) rfl rfl rfl rfl (by omega) (by omega) (fun (q : 120 ≤ i) => absurd q (show ¬ 120 ≤ i from by omega)) (fun _ => ?_)
    refine RQ.seg 6 (pc' := 18) (L' := [some (.ref 80), some (.ref 114), some (.int (iI i))]) (st' := [.int (iI (sc 8064 + i)), .ref 116, .int (iI i), .ref 114]) (g1 := (HW (usc sc 8064 (sc 8064 + i)) (usc ar 114 f) tx oc rl ou tl, q)) rfl ?_
    refine RQ.iald (z := (sc 8064 + i)) rfl rfl rfl (by omega) (by decide) ?_
    refine RQ.iast (z := i) (v := ((ar 116) (sc 8064 + i))) (g1 := (HW (usc sc 8064 (sc 8064 + i)) (usc ar 114 (usz f i ((ar 116) (sc 8064 + i)))) tx oc rl ou tl, q)) rfl rfl rfl rfl (by omega) (by decide) (HWa_114 (by funext j; unfold usc; cases hb : Nat.beq j 114 <;> first | rfl | (rw [Nat.eq_of_beq_eq_true hb]; rfl))) ?_
    refine RQ.seg 5 (pc' := 27) (L' := [some (.ref 80), some (.ref 114), some (.int (iI i))]) (st' := [.int ((iI (sc 8064 + i)) + (iI 1)), .ref 80]) (g1 := (HW (usc sc 8064 (sc 8064 + i)) (usc ar 114 (usz f i ((ar 116) (sc 8064 + i)))) tx oc rl ou tl, q)) rfl ?_
    refine RQ.to (L' := [some (.ref 80), some (.ref 114), some (.int (iI i))]) (st' := [.int (iI (sc 8064 + i + 1)), .ref 80]) rfl (by simp only [iI_add, iI_sub, iI_mul, iI_neg]) ?_
    refine RQ.seg 3 (pc' := 2) (L' := [some (.ref 80), some (.ref 114), some (.int ((iI i) + (iI 1)))]) (st' := []) (g1 := (HW (usc sc 8064 (sc 8064 + i + 1)) (usc ar 114 (usz f i ((ar 116) (sc 8064 + i)))) tx oc rl ou tl, q)) rfl ?_
    refine RQ.to (L' := [some (.ref 80), some (.ref 114), some (.int (iI (i + 1)))]) (st' := []) (by simp only [iI_add, iI_sub, iI_mul, iI_neg]) rfl ?_
    rw [show sc 8064 + i + 1 = sc 8064 + (i + 1) by omega]
    refine m_bring114_l hp hk m (i + 1) _ (by omega) (fun k k0 k1 => ?_)
    by_cases e : k = i
    · subst e; exact usz_s _ _ _
    · rw [usz_n e]; exact hf k k0 (by omega)
theorem m_bring114 {K : PK} {d : Nat} {sc : Nat → Int} {ar : Nat → Int → Int} {tx oc : Nat} {rl : Nat → Option Nat} {ou : Nat → Int64} {tl : List PO} {q : Nat × Nat} (hp : 0 ≤ sc 8064 ∧ sc 8064 + 120 ≤ 286) : CQ K (d + 1) 232 [.ref 80, .ref 114] (HW sc ar tx oc rl ou tl, q) (fun r g' => r = none ∧ ∃ f, g' = (HW (usc sc 8064 (sc 8064 + 120)) (usc ar 114 f) tx oc rl ou tl, q) ∧ (∀ k, 0 ≤ k → k < 120 → f k = ar 116 (sc 8064 + k))) := by
  refine CQ.of (own := 11) (n := 3) (ini := false) (rt := none) (cd := cd232) (by decide +kernel) rfl (by decide +kernel) rfl (Nat.le_of_ble_eq_true rfl) ?_
  refine RQ.seg 2 (pc' := 2) (L' := [some (.ref 80), some (.ref 114), some (.int (iI 0))]) (st' := []) (g1 := (HW sc ar tx oc rl ou tl, q)) rfl ?_
  refine RQ.hp (g1 := (HW (usc sc 8064 (sc 8064 + 0)) (usc ar 114 (ar 114)) tx oc rl ou tl, q)) (HW_e (by rw [Int.add_zero]; exact (usc_id sc 8064).symm) (usc_id ar 114).symm) ?_
  exact m_bring114_l hp (fun f hf => ⟨rfl, f, rfl, hf⟩) 120 0 (ar 114) (by omega) (fun k k0 k1 => absurd k1 (by omega))
theorem m_keep115_l {K : PK} {d : Nat} {sc : Nat → Int} {ar : Nat → Int → Int} {tx oc : Nat} {rl : Nat → Option Nat} {ou : Nat → Int64} {tl : List PO} {q : Nat × Nat} {Q : Option Value → PG → Prop} (hp : 0 ≤ sc 8064 ∧ sc 8064 + 120 ≤ 286) (hk : ∀ f : Int → Int, (∀ k, 0 ≤ k → k < 286 → f k = (if sc 8064 ≤ k ∧ k < sc 8064 + 120 then ar 115 (k - sc 8064) else ar 116 k)) → Q none (HW (usc sc 8064 (sc 8064 + 120)) (usc ar 116 f) tx oc rl ou tl, q)) : ∀ (m : Nat) (i : Int) (f : Int → Int) (hm : 0 ≤ i ∧ i + m = 120) (hf : (∀ k, 0 ≤ k → k < 286 → f k = (if sc 8064 ≤ k ∧ k < sc 8064 + i then ar 115 (k - sc 8064) else ar 116 k))), RQ K (d + 0) 11 false none cd231 2 [some (.ref 80), some (.ref 115), some (.int (iI i))] [] (HW (usc sc 8064 (sc 8064 + i)) (usc ar 116 f) tx oc rl ou tl, q) Q
  | 0, i, f, hm, hf => by
    refine RQ.seg 2 (pc' := 4) (L' := [some (.ref 80), some (.ref 115), some (.int (iI i))]) (st' := [.ref 115, .int (iI i)]) (g1 := (HW (usc sc 8064 (sc 8064 + i)) (usc ar 116 f) tx oc rl ou tl, q)) rfl ?_
    refine RQ.alen rfl rfl ?_
    refine RQ.if2 (a := i) (b := 120) rfl rfl rfl rfl (by omega) (by omega) (fun _ => ?_) (fun (q : ¬ 120 ≤ i) => absurd (show 120 ≤ i from by omega) q)
    refine RQ.ret rfl rfl ?_
    obtain rfl : i = 120 := by omega
    exact hk f hf
  | m + 1, i, f, hm, hf => by
    refine RQ.seg 2 (pc' := 4) (L' := [some (.ref 80), some (.ref 115), some (.int (iI i))]) (st' := [.ref 115, .int (iI i)]) (g1 := (HW (usc sc 8064 (sc 8064 + i)) (usc ar 116 f) tx oc rl ou tl, q)) rfl ?_
    refine RQ.alen rfl rfl ?_
    refine RQ.if2 (a := i) (b := 120) rfl rfl rfl rfl (by omega) (by omega) (fun (q : 120 ≤ i) => absurd q (show ¬ 120 ≤ i from by omega)) (fun _ => ?_)
    refine RQ.seg 6 (pc' := 18) (L' := [some (.ref 80), some (.ref 115), some (.int (iI i))]) (st' := [.int (iI i), .ref 115, .int (iI (sc 8064 + i)), .ref 116]) (g1 := (HW (usc sc 8064 (sc 8064 + i)) (usc ar 116 f) tx oc rl ou tl, q)) rfl ?_
    refine RQ.iald (z := i) rfl rfl rfl (by omega) (by decide) ?_
    refine RQ.iast (z := (sc 8064 + i)) (v := ((ar 115) i)) (g1 := (HW (usc sc 8064 (sc 8064 + i)) (usc ar 116 (usz f (sc 8064 + i) ((ar 115) i))) tx oc rl ou tl, q)) rfl rfl rfl rfl (by omega) (by decide) (HWa_116 (by funext j; unfold usc; cases hb : Nat.beq j 116 <;> first | rfl | (rw [Nat.eq_of_beq_eq_true hb]; rfl))) ?_
    refine RQ.seg 5 (pc' := 27) (L' := [some (.ref 80), some (.ref 115), some (.int (iI i))]) (st' := [.int ((iI (sc 8064 + i)) + (iI 1)), .ref 80]) (g1 := (HW (usc sc 8064 (sc 8064 + i)) (usc ar 116 (usz f (sc 8064 + i) ((ar 115) i))) tx oc rl ou tl, q)) rfl ?_
    refine RQ.to (L' := [some (.ref 80), some (.ref 115), some (.int (iI i))]) (st' := [.int (iI (sc 8064 + i + 1)), .ref 80]) rfl (by simp only [iI_add, iI_sub, iI_mul, iI_neg]) ?_
    refine RQ.seg 3 (pc' := 2) (L' := [some (.ref 80), some (.ref 115), some (.int ((iI i) + (iI 1)))]) (st' := []) (g1 := (HW (usc sc 8064 (sc 8064 + i + 1)) (usc ar 116 (usz f (sc 8064 + i) ((ar 115) i))) tx oc rl ou tl, q)) rfl ?_
    refine RQ.to (L' := [some (.ref 80), some (.ref 115), some (.int (iI (i + 1)))]) (st' := []) (by simp only [iI_add, iI_sub, iI_mul, iI_neg]) rfl ?_
    rw [show sc 8064 + i + 1 = sc 8064 + (i + 1) by omega]
    refine m_keep115_l hp hk m (i + 1) _ (by omega) (fun k k0 k1 => ?_)
    by_cases e : k = sc 8064 + i
    · subst e; rw [usz_s, if_pos (by omega), show sc 8064 + i - sc 8064 = i by omega]
    · rw [usz_n e, hf k k0 k1]; by_cases e2 : sc 8064 ≤ k ∧ k < sc 8064 + i
      · rw [if_pos e2, if_pos (by omega)]
      · rw [if_neg e2, if_neg (by omega)]
theorem m_keep115 {K : PK} {d : Nat} {sc : Nat → Int} {ar : Nat → Int → Int} {tx oc : Nat} {rl : Nat → Option Nat} {ou : Nat → Int64} {tl : List PO} {q : Nat × Nat} (hp : 0 ≤ sc 8064 ∧ sc 8064 + 120 ≤ 286) : CQ K (d + 1) 231 [.ref 80, .ref 115] (HW sc ar tx oc rl ou tl, q) (fun r g' => r = none ∧ ∃ f, g' = (HW (usc sc 8064 (sc 8064 + 120)) (usc ar 116 f) tx oc rl ou tl, q) ∧ (∀ k, 0 ≤ k → k < 286 → f k = (if sc 8064 ≤ k ∧ k < sc 8064 + 120 then ar 115 (k - sc 8064) else ar 116 k))) := by
  refine CQ.of (own := 11) (n := 3) (ini := false) (rt := none) (cd := cd231) (by decide +kernel) rfl (by decide +kernel) rfl (Nat.le_of_ble_eq_true rfl) ?_
  refine RQ.seg 2 (pc' := 2) (L' := [some (.ref 80), some (.ref 115), some (.int (iI 0))]) (st' := []) (g1 := (HW sc ar tx oc rl ou tl, q)) rfl ?_
  refine RQ.hp (g1 := (HW (usc sc 8064 (sc 8064 + 0)) (usc ar 116 (ar 116)) tx oc rl ou tl, q)) (HW_e (by rw [Int.add_zero]; exact (usc_id sc 8064).symm) (usc_id ar 116).symm) ?_
  exact m_keep115_l hp (fun f hf => ⟨rfl, f, rfl, hf⟩) 120 0 (ar 116) (by omega) (fun k k0 k1 => (if_neg (by omega)).symm)
theorem m_bring115_l {K : PK} {d : Nat} {sc : Nat → Int} {ar : Nat → Int → Int} {tx oc : Nat} {rl : Nat → Option Nat} {ou : Nat → Int64} {tl : List PO} {q : Nat × Nat} {Q : Option Value → PG → Prop} (hp : 0 ≤ sc 8064 ∧ sc 8064 + 120 ≤ 286) (hk : ∀ f : Int → Int, (∀ k, 0 ≤ k → k < 120 → f k = ar 116 (sc 8064 + k)) → Q none (HW (usc sc 8064 (sc 8064 + 120)) (usc ar 115 f) tx oc rl ou tl, q)) : ∀ (m : Nat) (i : Int) (f : Int → Int) (hm : 0 ≤ i ∧ i + m = 120) (hf : (∀ k, 0 ≤ k → k < i → f k = ar 116 (sc 8064 + k))), RQ K (d + 0) 11 false none cd232 2 [some (.ref 80), some (.ref 115), some (.int (iI i))] [] (HW (usc sc 8064 (sc 8064 + i)) (usc ar 115 f) tx oc rl ou tl, q) Q
  | 0, i, f, hm, hf => by
    refine RQ.seg 2 (pc' := 4) (L' := [some (.ref 80), some (.ref 115), some (.int (iI i))]) (st' := [.ref 115, .int (iI i)]) (g1 := (HW (usc sc 8064 (sc 8064 + i)) (usc ar 115 f) tx oc rl ou tl, q)) rfl ?_
    refine RQ.alen rfl rfl ?_
    refine RQ.if2 (a := i) (b := 120) rfl rfl rfl rfl (by omega) (by omega) (fun _ => ?_) (fun (q : ¬ 120 ≤ i) => absurd (show 120 ≤ i from by omega) q)
    refine RQ.ret rfl rfl ?_
    obtain rfl : i = 120 := by omega
    exact hk f hf
  | m + 1, i, f, hm, hf => by
    refine RQ.seg 2 (pc' := 4) (L' := [some (.ref 80), some (.ref 115), some (.int (iI i))]) (st' := [.ref 115, .int (iI i)]) (g1 := (HW (usc sc 8064 (sc 8064 + i)) (usc ar 115 f) tx oc rl ou tl, q)) rfl ?_
    refine RQ.alen rfl rfl ?_
    refine RQ.if2 (a := i) (b := 120) rfl rfl rfl rfl (by omega) (by omega) (fun (q : 120 ≤ i) => absurd q (show ¬ 120 ≤ i from by omega)) (fun _ => ?_)
    refine RQ.seg 6 (pc' := 18) (L' := [some (.ref 80), some (.ref 115), some (.int (iI i))]) (st' := [.int (iI (sc 8064 + i)), .ref 116, .int (iI i), .ref 115]) (g1 := (HW (usc sc 8064 (sc 8064 + i)) (usc ar 115 f) tx oc rl ou tl, q)) rfl ?_
    refine RQ.iald (z := (sc 8064 + i)) rfl rfl rfl (by omega) (by decide) ?_
    refine RQ.iast (z := i) (v := ((ar 116) (sc 8064 + i))) (g1 := (HW (usc sc 8064 (sc 8064 + i)) (usc ar 115 (usz f i ((ar 116) (sc 8064 + i)))) tx oc rl ou tl, q)) rfl rfl rfl rfl (by omega) (by decide) (HWa_115 (by funext j; unfold usc; cases hb : Nat.beq j 115 <;> first | rfl | (rw [Nat.eq_of_beq_eq_true hb]; rfl))) ?_
    refine RQ.seg 5 (pc' := 27) (L' := [some (.ref 80), some (.ref 115), some (.int (iI i))]) (st' := [.int ((iI (sc 8064 + i)) + (iI 1)), .ref 80]) (g1 := (HW (usc sc 8064 (sc 8064 + i)) (usc ar 115 (usz f i ((ar 116) (sc 8064 + i)))) tx oc rl ou tl, q)) rfl ?_
    refine RQ.to (L' := [some (.ref 80), some (.ref 115), some (.int (iI i))]) (st' := [.int (iI (sc 8064 + i + 1)), .ref 80]) rfl (by simp only [iI_add, iI_sub, iI_mul, iI_neg]) ?_
    refine RQ.seg 3 (pc' := 2) (L' := [some (.ref 80), some (.ref 115), some (.int ((iI i) + (iI 1)))]) (st' := []) (g1 := (HW (usc sc 8064 (sc 8064 + i + 1)) (usc ar 115 (usz f i ((ar 116) (sc 8064 + i)))) tx oc rl ou tl, q)) rfl ?_
    refine RQ.to (L' := [some (.ref 80), some (.ref 115), some (.int (iI (i + 1)))]) (st' := []) (by simp only [iI_add, iI_sub, iI_mul, iI_neg]) rfl ?_
    rw [show sc 8064 + i + 1 = sc 8064 + (i + 1) by omega]
    refine m_bring115_l hp hk m (i + 1) _ (by omega) (fun k k0 k1 => ?_)
    by_cases e : k = i
    · subst e; exact usz_s _ _ _
    · rw [usz_n e]; exact hf k k0 (by omega)
theorem m_bring115 {K : PK} {d : Nat} {sc : Nat → Int} {ar : Nat → Int → Int} {tx oc : Nat} {rl : Nat → Option Nat} {ou : Nat → Int64} {tl : List PO} {q : Nat × Nat} (hp : 0 ≤ sc 8064 ∧ sc 8064 + 120 ≤ 286) : CQ K (d + 1) 232 [.ref 80, .ref 115] (HW sc ar tx oc rl ou tl, q) (fun r g' => r = none ∧ ∃ f, g' = (HW (usc sc 8064 (sc 8064 + 120)) (usc ar 115 f) tx oc rl ou tl, q) ∧ (∀ k, 0 ≤ k → k < 120 → f k = ar 116 (sc 8064 + k))) := by
  refine CQ.of (own := 11) (n := 3) (ini := false) (rt := none) (cd := cd232) (by decide +kernel) rfl (by decide +kernel) rfl (Nat.le_of_ble_eq_true rfl) ?_
  refine RQ.seg 2 (pc' := 2) (L' := [some (.ref 80), some (.ref 115), some (.int (iI 0))]) (st' := []) (g1 := (HW sc ar tx oc rl ou tl, q)) rfl ?_
  refine RQ.hp (g1 := (HW (usc sc 8064 (sc 8064 + 0)) (usc ar 115 (ar 115)) tx oc rl ou tl, q)) (HW_e (by rw [Int.add_zero]; exact (usc_id sc 8064).symm) (usc_id ar 115).symm) ?_
  exact m_bring115_l hp (fun f hf => ⟨rfl, f, rfl, hf⟩) 120 0 (ar 115) (by omega) (fun k k0 k1 => absurd k1 (by omega))
theorem m_image {K : PK} {d : Nat} {sc : Nat → Int} {ar : Nat → Int → Int} {tx oc : Nat} {rl : Nat → Option Nat} {ou : Nat → Int64} {tl : List PO} {q : Nat × Nat} {nw nb : Int} {W B : Int → Int → Int} (hF : FrOK nw nb W B) (hM : FrM (sc 8024) (sc 8025) (ar 85) (ar 86) nw nb W B) {Z : SS} (hS : SeOK nb Z) (hZ : SeM nb Z sc ar) : CQ K (d + 2) 233 [.ref 80] (HW sc ar tx oc rl ou tl, q) (fun r g' => r = some (.int (iI (if 0 < nb then dN (zD Z) else -1))) ∧ ∃ sc' ar', g' = (HW sc' ar' tx oc rl ou tl, q) ∧ Same [8000, 8061, 8062, 8063, 8064, 8065] sc sc' ∧ Same [116] ar ar' ∧ (0 < nb → sc' 8065 = 1 ∧ SeJ nb Z sc' ar') ∧ (¬ 0 < nb → sc' = usc sc 8000 0 ∧ ar' = ar)) := by
  have hn := hF.1
  have hm1 := hM.1
  have hm2 := hM.2.1
  have hz := hS.2.1
  have hO := hS.2.2
  refine CQ.of (own := 11) (n := 1) (ini := false) (rt := (some .int)) (cd := cd233) (by decide +kernel) rfl (by decide +kernel) rfl (Nat.le_of_ble_eq_true rfl) ?_
  refine RQ.seg 5 (pc' := 9) (L' := [some (.ref 80)]) (st' := [.int (iI (sc 8025))]) (g1 := (HW (usc sc 8000 0) ar tx oc rl ou tl, q)) rfl ?_
  refine RQ.if1 (a := (sc 8025)) rfl rfl rfl (by omega) (fun (h1 : sc 8025 ≠ 0) => ?_) (fun (h1 : ¬ sc 8025 ≠ 0) => ?_)
  · skip
    refine RQ.seg 6 (pc' := 24) (L' := [some (.ref 80)]) (st' := [.ref 91, .ref 80]) (g1 := (HW (usc (usc sc 8000 0) 8064 0) ar tx oc rl ou tl, q)) rfl ?_
    refine RQ.callQ rfl rfl (m_keep91 (sc := usc (usc sc 8000 0) 8064 0) (ar := ar) (by show (0 : Int) ≤ 0 ∧ (0 : Int) + 3 ≤ 286; omega)) (fun rv g1 hc => ?_)
    obtain ⟨rfl, f1, rfl, h1q⟩ := hc
    have h1 : ∀ k, 0 ≤ k → k < 286 → f1 k = (if (0 : Int) ≤ k ∧ k < 3 then ar 91 (k - 0) else ar 116 k) := h1q
    refine RQ.hp (g1 := (HW (usc (usc sc 8000 0) 8064 3) (usc ar 116 f1) tx oc rl ou tl, q)) (HW_e (usc_uu _ 8064 _ _) rfl) ?_
    refine RQ.seg 3 (pc' := 32) (L' := [some (.ref 80)]) (st' := [.ref 92, .ref 80]) (g1 := (HW (usc (usc sc 8000 0) 8064 3) (usc ar 116 f1) tx oc rl ou tl, q)) rfl ?_
    refine RQ.callQ rfl rfl (m_keep92 (sc := usc (usc sc 8000 0) 8064 3) (ar := usc ar 116 f1) (by show (0 : Int) ≤ 3 ∧ (3 : Int) + 3 ≤ 286; omega)) (fun rv g1 hc => ?_)
    obtain ⟨rfl, f2, rfl, h2q⟩ := hc
    have h2 : ∀ k, 0 ≤ k → k < 286 → f2 k = (if (3 : Int) ≤ k ∧ k < 6 then ar 92 (k - 3) else f1 k) := h2q
    refine RQ.hp (g1 := (HW (usc (usc sc 8000 0) 8064 6) (usc ar 116 f2) tx oc rl ou tl, q)) (HW_e (usc_uu _ 8064 _ _) (usc_uu _ 116 _ _)) ?_
    refine RQ.seg 3 (pc' := 40) (L' := [some (.ref 80)]) (st' := [.ref 93, .ref 80]) (g1 := (HW (usc (usc sc 8000 0) 8064 6) (usc ar 116 f2) tx oc rl ou tl, q)) rfl ?_
    refine RQ.callQ rfl rfl (m_keep93 (sc := usc (usc sc 8000 0) 8064 6) (ar := usc ar 116 f2) (by show (0 : Int) ≤ 6 ∧ (6 : Int) + 3 ≤ 286; omega)) (fun rv g1 hc => ?_)
    obtain ⟨rfl, f3, rfl, h3q⟩ := hc
    have h3 : ∀ k, 0 ≤ k → k < 286 → f3 k = (if (6 : Int) ≤ k ∧ k < 9 then ar 93 (k - 6) else f2 k) := h3q
    refine RQ.hp (g1 := (HW (usc (usc sc 8000 0) 8064 9) (usc ar 116 f3) tx oc rl ou tl, q)) (HW_e (usc_uu _ 8064 _ _) (usc_uu _ 116 _ _)) ?_
    refine RQ.seg 3 (pc' := 48) (L' := [some (.ref 80)]) (st' := [.ref 87, .ref 80]) (g1 := (HW (usc (usc sc 8000 0) 8064 9) (usc ar 116 f3) tx oc rl ou tl, q)) rfl ?_
    refine RQ.callQ rfl rfl (m_keep87 (sc := usc (usc sc 8000 0) 8064 9) (ar := usc ar 116 f3) (by show (0 : Int) ≤ 9 ∧ (9 : Int) + 4 ≤ 286; omega)) (fun rv g1 hc => ?_)
    obtain ⟨rfl, f4, rfl, h4q⟩ := hc
    have h4 : ∀ k, 0 ≤ k → k < 286 → f4 k = (if (9 : Int) ≤ k ∧ k < 13 then ar 87 (k - 9) else f3 k) := h4q
    refine RQ.hp (g1 := (HW (usc (usc sc 8000 0) 8064 13) (usc ar 116 f4) tx oc rl ou tl, q)) (HW_e (usc_uu _ 8064 _ _) (usc_uu _ 116 _ _)) ?_
    refine RQ.seg 3 (pc' := 56) (L' := [some (.ref 80)]) (st' := [.ref 111, .ref 80]) (g1 := (HW (usc (usc sc 8000 0) 8064 13) (usc ar 116 f4) tx oc rl ou tl, q)) rfl ?_
    refine RQ.callQ rfl rfl (m_keep111 (sc := usc (usc sc 8000 0) 8064 13) (ar := usc ar 116 f4) (by show (0 : Int) ≤ 13 ∧ (13 : Int) + 10 ≤ 286; omega)) (fun rv g1 hc => ?_)
    obtain ⟨rfl, f5, rfl, h5q⟩ := hc
    have h5 : ∀ k, 0 ≤ k → k < 286 → f5 k = (if (13 : Int) ≤ k ∧ k < 23 then ar 111 (k - 13) else f4 k) := h5q
    refine RQ.hp (g1 := (HW (usc (usc sc 8000 0) 8064 23) (usc ar 116 f5) tx oc rl ou tl, q)) (HW_e (usc_uu _ 8064 _ _) (usc_uu _ 116 _ _)) ?_
    refine RQ.seg 3 (pc' := 64) (L' := [some (.ref 80)]) (st' := [.ref 112, .ref 80]) (g1 := (HW (usc (usc sc 8000 0) 8064 23) (usc ar 116 f5) tx oc rl ou tl, q)) rfl ?_
    refine RQ.callQ rfl rfl (m_keep112 (sc := usc (usc sc 8000 0) 8064 23) (ar := usc ar 116 f5) (by show (0 : Int) ≤ 23 ∧ (23 : Int) + 10 ≤ 286; omega)) (fun rv g1 hc => ?_)
    obtain ⟨rfl, f6, rfl, h6q⟩ := hc
    have h6 : ∀ k, 0 ≤ k → k < 286 → f6 k = (if (23 : Int) ≤ k ∧ k < 33 then ar 112 (k - 23) else f5 k) := h6q
    refine RQ.hp (g1 := (HW (usc (usc sc 8000 0) 8064 33) (usc ar 116 f6) tx oc rl ou tl, q)) (HW_e (usc_uu _ 8064 _ _) (usc_uu _ 116 _ _)) ?_
    refine RQ.seg 3 (pc' := 72) (L' := [some (.ref 80)]) (st' := [.ref 113, .ref 80]) (g1 := (HW (usc (usc sc 8000 0) 8064 33) (usc ar 116 f6) tx oc rl ou tl, q)) rfl ?_
    refine RQ.callQ rfl rfl (m_keep113 (sc := usc (usc sc 8000 0) 8064 33) (ar := usc ar 116 f6) (by show (0 : Int) ≤ 33 ∧ (33 : Int) + 10 ≤ 286; omega)) (fun rv g1 hc => ?_)
    obtain ⟨rfl, f7, rfl, h7q⟩ := hc
    have h7 : ∀ k, 0 ≤ k → k < 286 → f7 k = (if (33 : Int) ≤ k ∧ k < 43 then ar 113 (k - 33) else f6 k) := h7q
    refine RQ.hp (g1 := (HW (usc (usc sc 8000 0) 8064 43) (usc ar 116 f7) tx oc rl ou tl, q)) (HW_e (usc_uu _ 8064 _ _) (usc_uu _ 116 _ _)) ?_
    refine RQ.seg 3 (pc' := 80) (L' := [some (.ref 80)]) (st' := [.ref 114, .ref 80]) (g1 := (HW (usc (usc sc 8000 0) 8064 43) (usc ar 116 f7) tx oc rl ou tl, q)) rfl ?_
    refine RQ.callQ rfl rfl (m_keep114 (sc := usc (usc sc 8000 0) 8064 43) (ar := usc ar 116 f7) (by show (0 : Int) ≤ 43 ∧ (43 : Int) + 120 ≤ 286; omega)) (fun rv g1 hc => ?_)
    obtain ⟨rfl, f8, rfl, h8q⟩ := hc
    have h8 : ∀ k, 0 ≤ k → k < 286 → f8 k = (if (43 : Int) ≤ k ∧ k < 163 then ar 114 (k - 43) else f7 k) := h8q
    refine RQ.hp (g1 := (HW (usc (usc sc 8000 0) 8064 163) (usc ar 116 f8) tx oc rl ou tl, q)) (HW_e (usc_uu _ 8064 _ _) (usc_uu _ 116 _ _)) ?_
    refine RQ.seg 3 (pc' := 88) (L' := [some (.ref 80)]) (st' := [.ref 115, .ref 80]) (g1 := (HW (usc (usc sc 8000 0) 8064 163) (usc ar 116 f8) tx oc rl ou tl, q)) rfl ?_
    refine RQ.callQ rfl rfl (m_keep115 (sc := usc (usc sc 8000 0) 8064 163) (ar := usc ar 116 f8) (by show (0 : Int) ≤ 163 ∧ (163 : Int) + 120 ≤ 286; omega)) (fun rv g1 hc => ?_)
    obtain ⟨rfl, f9, rfl, h9q⟩ := hc
    have h9 : ∀ k, 0 ≤ k → k < 286 → f9 k = (if (163 : Int) ≤ k ∧ k < 283 then ar 115 (k - 163) else f8 k) := h9q
    refine RQ.hp (g1 := (HW (usc (usc sc 8000 0) 8064 283) (usc ar 116 f9) tx oc rl ou tl, q)) (HW_e (usc_uu _ 8064 _ _) (usc_uu _ 116 _ _)) ?_
    refine RQ.seg 17 (pc' := 124) (L' := [some (.ref 80)]) (st' := [.int (iI (sc 8032))]) (g1 := (HW (usc (usc (usc (usc (usc (usc sc 8000 0) 8061 (sc 8032)) 8062 (sc 8059)) 8063 (sc 8056)) 8064 283) 8065 1) (usc ar 116 f9) tx oc rl ou tl, q)) rfl ?_
    refine RQ.ret rfl rfl ?_
    rw [if_pos (by omega)]
    have g91 : ∀ j, 0 ≤ j → j < 3 → f9 (0 + j) = ar 91 j := fun j j0 j1 => by rw [h9 (0 + j) (by omega) (by omega), if_neg (by omega), h8 (0 + j) (by omega) (by omega), if_neg (by omega), h7 (0 + j) (by omega) (by omega), if_neg (by omega), h6 (0 + j) (by omega) (by omega), if_neg (by omega), h5 (0 + j) (by omega) (by omega), if_neg (by omega), h4 (0 + j) (by omega) (by omega), if_neg (by omega), h3 (0 + j) (by omega) (by omega), if_neg (by omega), h2 (0 + j) (by omega) (by omega), if_neg (by omega), h1 (0 + j) (by omega) (by omega), if_pos (by omega), show 0 + j - 0 = j by omega]
    have g92 : ∀ j, 0 ≤ j → j < 3 → f9 (3 + j) = ar 92 j := fun j j0 j1 => by rw [h9 (3 + j) (by omega) (by omega), if_neg (by omega), h8 (3 + j) (by omega) (by omega), if_neg (by omega), h7 (3 + j) (by omega) (by omega), if_neg (by omega), h6 (3 + j) (by omega) (by omega), if_neg (by omega), h5 (3 + j) (by omega) (by omega), if_neg (by omega), h4 (3 + j) (by omega) (by omega), if_neg (by omega), h3 (3 + j) (by omega) (by omega), if_neg (by omega), h2 (3 + j) (by omega) (by omega), if_pos (by omega), show 3 + j - 3 = j by omega]
    have g93 : ∀ j, 0 ≤ j → j < 3 → f9 (6 + j) = ar 93 j := fun j j0 j1 => by rw [h9 (6 + j) (by omega) (by omega), if_neg (by omega), h8 (6 + j) (by omega) (by omega), if_neg (by omega), h7 (6 + j) (by omega) (by omega), if_neg (by omega), h6 (6 + j) (by omega) (by omega), if_neg (by omega), h5 (6 + j) (by omega) (by omega), if_neg (by omega), h4 (6 + j) (by omega) (by omega), if_neg (by omega), h3 (6 + j) (by omega) (by omega), if_pos (by omega), show 6 + j - 6 = j by omega]
    have g87 : ∀ j, 0 ≤ j → j < 4 → f9 (9 + j) = ar 87 j := fun j j0 j1 => by rw [h9 (9 + j) (by omega) (by omega), if_neg (by omega), h8 (9 + j) (by omega) (by omega), if_neg (by omega), h7 (9 + j) (by omega) (by omega), if_neg (by omega), h6 (9 + j) (by omega) (by omega), if_neg (by omega), h5 (9 + j) (by omega) (by omega), if_neg (by omega), h4 (9 + j) (by omega) (by omega), if_pos (by omega), show 9 + j - 9 = j by omega]
    have g111 : ∀ j, 0 ≤ j → j < 10 → f9 (13 + j) = ar 111 j := fun j j0 j1 => by rw [h9 (13 + j) (by omega) (by omega), if_neg (by omega), h8 (13 + j) (by omega) (by omega), if_neg (by omega), h7 (13 + j) (by omega) (by omega), if_neg (by omega), h6 (13 + j) (by omega) (by omega), if_neg (by omega), h5 (13 + j) (by omega) (by omega), if_pos (by omega), show 13 + j - 13 = j by omega]
    have g112 : ∀ j, 0 ≤ j → j < 10 → f9 (23 + j) = ar 112 j := fun j j0 j1 => by rw [h9 (23 + j) (by omega) (by omega), if_neg (by omega), h8 (23 + j) (by omega) (by omega), if_neg (by omega), h7 (23 + j) (by omega) (by omega), if_neg (by omega), h6 (23 + j) (by omega) (by omega), if_pos (by omega), show 23 + j - 23 = j by omega]
    have g113 : ∀ j, 0 ≤ j → j < 10 → f9 (33 + j) = ar 113 j := fun j j0 j1 => by rw [h9 (33 + j) (by omega) (by omega), if_neg (by omega), h8 (33 + j) (by omega) (by omega), if_neg (by omega), h7 (33 + j) (by omega) (by omega), if_pos (by omega), show 33 + j - 33 = j by omega]
    have g114 : ∀ j, 0 ≤ j → j < 120 → f9 (43 + j) = ar 114 j := fun j j0 j1 => by rw [h9 (43 + j) (by omega) (by omega), if_neg (by omega), h8 (43 + j) (by omega) (by omega), if_pos (by omega), show 43 + j - 43 = j by omega]
    have g115 : ∀ j, 0 ≤ j → j < 120 → f9 (163 + j) = ar 115 j := fun j j0 j1 => by rw [h9 (163 + j) (by omega) (by omega), if_pos (by omega), show 163 + j - 163 = j by omega]
    exact ⟨by rw [show sc 8032 = dN (zD Z) from hZ.2.1], _, _, rfl, (by repeat (first | exact Same.rf | refine Same.us rfl ?_)), (by repeat (first | exact Same.rf | refine Same.us rfl ?_)), fun _ => ⟨rfl, SeO.cp hz rfl g87 g91 g111 g112 g113 hZ.1, NtB.cp (by omega) hO rfl rfl g92 g93 g114 g115 hZ.2⟩, fun z => absurd (by omega) z⟩
  · skip
    refine RQ.seg 1 (pc' := 13) (L' := [some (.ref 80)]) (st' := [.int (iI (-1))]) (g1 := (HW (usc sc 8000 0) ar tx oc rl ou tl, q)) rfl ?_
    refine RQ.ret rfl rfl ?_
    rw [if_neg (by omega)]
    exact ⟨rfl, _, _, rfl, (by repeat (first | exact Same.rf | refine Same.us rfl ?_)), (by repeat (first | exact Same.rf | refine Same.us rfl ?_)), fun z => absurd z (by omega), fun _ => ⟨rfl, rfl⟩⟩
theorem m_back {K : PK} {d : Nat} {sc : Nat → Int} {ar : Nat → Int → Int} {tx oc : Nat} {rl : Nat → Option Nat} {ou : Nat → Int64} {tl : List PO} {q : Nat × Nat} {nb : Int} (hn : 0 ≤ nb ∧ nb ≤ 3) {Z : SS} (hk : 0 ≤ sc 8065 ∧ sc 8065 ≤ 1) (hS : SeOK nb Z) (hZi : sc 8065 = 1 → SeJ nb Z sc ar) : CQ K (d + 2) 234 [.ref 80] (HW sc ar tx oc rl ou tl, q) (fun r g' => r = some (.int (iI (if sc 8065 = 1 then dN (zD Z) else -1))) ∧ ∃ sc' ar', g' = (HW sc' ar' tx oc rl ou tl, q) ∧ Same [8000, 8032, 8056, 8059, 8064] sc sc' ∧ Same [87, 91, 92, 93, 111, 112, 113, 114, 115] ar ar' ∧ (sc 8065 = 1 → SeM nb Z sc' ar') ∧ (¬ sc 8065 = 1 → sc' = usc sc 8000 0 ∧ ar' = ar)) := by
  have hz := hS.2.1
  have hO := hS.2.2
  refine CQ.of (own := 11) (n := 1) (ini := false) (rt := (some .int)) (cd := cd234) (by decide +kernel) rfl (by decide +kernel) rfl (Nat.le_of_ble_eq_true rfl) ?_
  refine RQ.seg 5 (pc' := 9) (L' := [some (.ref 80)]) (st' := [.int (iI (sc 8065))]) (g1 := (HW (usc sc 8000 0) ar tx oc rl ou tl, q)) rfl ?_
  refine RQ.if1 (a := (sc 8065)) rfl rfl rfl (by omega) (fun (h1 : sc 8065 ≠ 0) => ?_) (fun (h1 : ¬ sc 8065 ≠ 0) => ?_)
  · skip
    refine RQ.seg 6 (pc' := 24) (L' := [some (.ref 80)]) (st' := [.ref 91, .ref 80]) (g1 := (HW (usc (usc sc 8000 0) 8064 0) ar tx oc rl ou tl, q)) rfl ?_
    refine RQ.callQ rfl rfl (m_bring91 (sc := usc (usc sc 8000 0) 8064 0) (ar := ar) (by show (0 : Int) ≤ 0 ∧ (0 : Int) + 3 ≤ 286; omega)) (fun rv g1 hc => ?_)
    obtain ⟨rfl, f91, rfl, h91q⟩ := hc
    have h91 : ∀ k, 0 ≤ k → k < 3 → f91 k = ar 116 (0 + k) := h91q
    refine RQ.hp (g1 := (HW (usc (usc sc 8000 0) 8064 3) (usc ar 91 f91) tx oc rl ou tl, q)) (HW_e (usc_uu _ 8064 _ _) rfl) ?_
    refine RQ.seg 3 (pc' := 32) (L' := [some (.ref 80)]) (st' := [.ref 92, .ref 80]) (g1 := (HW (usc (usc sc 8000 0) 8064 3) (usc ar 91 f91) tx oc rl ou tl, q)) rfl ?_
    refine RQ.callQ rfl rfl (m_bring92 (sc := usc (usc sc 8000 0) 8064 3) (ar := usc ar 91 f91) (by show (0 : Int) ≤ 3 ∧ (3 : Int) + 3 ≤ 286; omega)) (fun rv g1 hc => ?_)
    obtain ⟨rfl, f92, rfl, h92q⟩ := hc
    have h92 : ∀ k, 0 ≤ k → k < 3 → f92 k = ar 116 (3 + k) := h92q
    refine RQ.hp (g1 := (HW (usc (usc sc 8000 0) 8064 6) (usc (usc ar 91 f91) 92 f92) tx oc rl ou tl, q)) (HW_e (usc_uu _ 8064 _ _) rfl) ?_
    refine RQ.seg 3 (pc' := 40) (L' := [some (.ref 80)]) (st' := [.ref 93, .ref 80]) (g1 := (HW (usc (usc sc 8000 0) 8064 6) (usc (usc ar 91 f91) 92 f92) tx oc rl ou tl, q)) rfl ?_
    refine RQ.callQ rfl rfl (m_bring93 (sc := usc (usc sc 8000 0) 8064 6) (ar := usc (usc ar 91 f91) 92 f92) (by show (0 : Int) ≤ 6 ∧ (6 : Int) + 3 ≤ 286; omega)) (fun rv g1 hc => ?_)
    obtain ⟨rfl, f93, rfl, h93q⟩ := hc
    have h93 : ∀ k, 0 ≤ k → k < 3 → f93 k = ar 116 (6 + k) := h93q
    refine RQ.hp (g1 := (HW (usc (usc sc 8000 0) 8064 9) (usc (usc (usc ar 91 f91) 92 f92) 93 f93) tx oc rl ou tl, q)) (HW_e (usc_uu _ 8064 _ _) rfl) ?_
    refine RQ.seg 3 (pc' := 48) (L' := [some (.ref 80)]) (st' := [.ref 87, .ref 80]) (g1 := (HW (usc (usc sc 8000 0) 8064 9) (usc (usc (usc ar 91 f91) 92 f92) 93 f93) tx oc rl ou tl, q)) rfl ?_
    refine RQ.callQ rfl rfl (m_bring87 (sc := usc (usc sc 8000 0) 8064 9) (ar := usc (usc (usc ar 91 f91) 92 f92) 93 f93) (by show (0 : Int) ≤ 9 ∧ (9 : Int) + 4 ≤ 286; omega)) (fun rv g1 hc => ?_)
    obtain ⟨rfl, f87, rfl, h87q⟩ := hc
    have h87 : ∀ k, 0 ≤ k → k < 4 → f87 k = ar 116 (9 + k) := h87q
    refine RQ.hp (g1 := (HW (usc (usc sc 8000 0) 8064 13) (usc (usc (usc (usc ar 87 f87) 91 f91) 92 f92) 93 f93) tx oc rl ou tl, q)) (HW_e (usc_uu _ 8064 _ _) (show usc (usc (usc (usc ar 91 f91) 92 f92) 93 f93) 87 f87 = usc (usc (usc (usc ar 87 f87) 91 f91) 92 f92) 93 f93 by repeat (first | rfl | rw [usc_sw _ _ 87 _ _ rfl]))) ?_
    refine RQ.seg 3 (pc' := 56) (L' := [some (.ref 80)]) (st' := [.ref 111, .ref 80]) (g1 := (HW (usc (usc sc 8000 0) 8064 13) (usc (usc (usc (usc ar 87 f87) 91 f91) 92 f92) 93 f93) tx oc rl ou tl, q)) rfl ?_
    refine RQ.callQ rfl rfl (m_bring111 (sc := usc (usc sc 8000 0) 8064 13) (ar := usc (usc (usc (usc ar 87 f87) 91 f91) 92 f92) 93 f93) (by show (0 : Int) ≤ 13 ∧ (13 : Int) + 10 ≤ 286; omega)) (fun rv g1 hc => ?_)
    obtain ⟨rfl, f111, rfl, h111q⟩ := hc
    have h111 : ∀ k, 0 ≤ k → k < 10 → f111 k = ar 116 (13 + k) := h111q
    refine RQ.hp (g1 := (HW (usc (usc sc 8000 0) 8064 23) (usc (usc (usc (usc (usc ar 111 f111) 87 f87) 91 f91) 92 f92) 93 f93) tx oc rl ou tl, q)) (HW_e (usc_uu _ 8064 _ _) (show usc (usc (usc (usc (usc ar 87 f87) 91 f91) 92 f92) 93 f93) 111 f111 = usc (usc (usc (usc (usc ar 111 f111) 87 f87) 91 f91) 92 f92) 93 f93 by repeat (first | rfl | rw [usc_sw _ _ 111 _ _ rfl]))) ?_
    refine RQ.seg 3 (pc' := 64) (L' := [some (.ref 80)]) (st' := [.ref 112, .ref 80]) (g1 := (HW (usc (usc sc 8000 0) 8064 23) (usc (usc (usc (usc (usc ar 111 f111) 87 f87) 91 f91) 92 f92) 93 f93) tx oc rl ou tl, q)) rfl ?_
    refine RQ.callQ rfl rfl (m_bring112 (sc := usc (usc sc 8000 0) 8064 23) (ar := usc (usc (usc (usc (usc ar 111 f111) 87 f87) 91 f91) 92 f92) 93 f93) (by show (0 : Int) ≤ 23 ∧ (23 : Int) + 10 ≤ 286; omega)) (fun rv g1 hc => ?_)
    obtain ⟨rfl, f112, rfl, h112q⟩ := hc
    have h112 : ∀ k, 0 ≤ k → k < 10 → f112 k = ar 116 (23 + k) := h112q
    refine RQ.hp (g1 := (HW (usc (usc sc 8000 0) 8064 33) (usc (usc (usc (usc (usc (usc ar 111 f111) 112 f112) 87 f87) 91 f91) 92 f92) 93 f93) tx oc rl ou tl, q)) (HW_e (usc_uu _ 8064 _ _) (show usc (usc (usc (usc (usc (usc ar 111 f111) 87 f87) 91 f91) 92 f92) 93 f93) 112 f112 = usc (usc (usc (usc (usc (usc ar 111 f111) 112 f112) 87 f87) 91 f91) 92 f92) 93 f93 by repeat (first | rfl | rw [usc_sw _ _ 112 _ _ rfl]))) ?_
    refine RQ.seg 3 (pc' := 72) (L' := [some (.ref 80)]) (st' := [.ref 113, .ref 80]) (g1 := (HW (usc (usc sc 8000 0) 8064 33) (usc (usc (usc (usc (usc (usc ar 111 f111) 112 f112) 87 f87) 91 f91) 92 f92) 93 f93) tx oc rl ou tl, q)) rfl ?_
    refine RQ.callQ rfl rfl (m_bring113 (sc := usc (usc sc 8000 0) 8064 33) (ar := usc (usc (usc (usc (usc (usc ar 111 f111) 112 f112) 87 f87) 91 f91) 92 f92) 93 f93) (by show (0 : Int) ≤ 33 ∧ (33 : Int) + 10 ≤ 286; omega)) (fun rv g1 hc => ?_)
    obtain ⟨rfl, f113, rfl, h113q⟩ := hc
    have h113 : ∀ k, 0 ≤ k → k < 10 → f113 k = ar 116 (33 + k) := h113q
    refine RQ.hp (g1 := (HW (usc (usc sc 8000 0) 8064 43) (usc (usc (usc (usc (usc (usc (usc ar 111 f111) 112 f112) 113 f113) 87 f87) 91 f91) 92 f92) 93 f93) tx oc rl ou tl, q)) (HW_e (usc_uu _ 8064 _ _) (show usc (usc (usc (usc (usc (usc (usc ar 111 f111) 112 f112) 87 f87) 91 f91) 92 f92) 93 f93) 113 f113 = usc (usc (usc (usc (usc (usc (usc ar 111 f111) 112 f112) 113 f113) 87 f87) 91 f91) 92 f92) 93 f93 by repeat (first | rfl | rw [usc_sw _ _ 113 _ _ rfl]))) ?_
    refine RQ.seg 3 (pc' := 80) (L' := [some (.ref 80)]) (st' := [.ref 114, .ref 80]) (g1 := (HW (usc (usc sc 8000 0) 8064 43) (usc (usc (usc (usc (usc (usc (usc ar 111 f111) 112 f112) 113 f113) 87 f87) 91 f91) 92 f92) 93 f93) tx oc rl ou tl, q)) rfl ?_
    refine RQ.callQ rfl rfl (m_bring114 (sc := usc (usc sc 8000 0) 8064 43) (ar := usc (usc (usc (usc (usc (usc (usc ar 111 f111) 112 f112) 113 f113) 87 f87) 91 f91) 92 f92) 93 f93) (by show (0 : Int) ≤ 43 ∧ (43 : Int) + 120 ≤ 286; omega)) (fun rv g1 hc => ?_)
    obtain ⟨rfl, f114, rfl, h114q⟩ := hc
    have h114 : ∀ k, 0 ≤ k → k < 120 → f114 k = ar 116 (43 + k) := h114q
    refine RQ.hp (g1 := (HW (usc (usc sc 8000 0) 8064 163) (usc (usc (usc (usc (usc (usc (usc (usc ar 111 f111) 112 f112) 113 f113) 114 f114) 87 f87) 91 f91) 92 f92) 93 f93) tx oc rl ou tl, q)) (HW_e (usc_uu _ 8064 _ _) (show usc (usc (usc (usc (usc (usc (usc (usc ar 111 f111) 112 f112) 113 f113) 87 f87) 91 f91) 92 f92) 93 f93) 114 f114 = usc (usc (usc (usc (usc (usc (usc (usc ar 111 f111) 112 f112) 113 f113) 114 f114) 87 f87) 91 f91) 92 f92) 93 f93 by repeat (first | rfl | rw [usc_sw _ _ 114 _ _ rfl]))) ?_
    refine RQ.seg 3 (pc' := 88) (L' := [some (.ref 80)]) (st' := [.ref 115, .ref 80]) (g1 := (HW (usc (usc sc 8000 0) 8064 163) (usc (usc (usc (usc (usc (usc (usc (usc ar 111 f111) 112 f112) 113 f113) 114 f114) 87 f87) 91 f91) 92 f92) 93 f93) tx oc rl ou tl, q)) rfl ?_
    refine RQ.callQ rfl rfl (m_bring115 (sc := usc (usc sc 8000 0) 8064 163) (ar := usc (usc (usc (usc (usc (usc (usc (usc ar 111 f111) 112 f112) 113 f113) 114 f114) 87 f87) 91 f91) 92 f92) 93 f93) (by show (0 : Int) ≤ 163 ∧ (163 : Int) + 120 ≤ 286; omega)) (fun rv g1 hc => ?_)
    obtain ⟨rfl, f115, rfl, h115q⟩ := hc
    have h115 : ∀ k, 0 ≤ k → k < 120 → f115 k = ar 116 (163 + k) := h115q
    refine RQ.hp (g1 := (HW (usc (usc sc 8000 0) 8064 283) (usc (usc (usc (usc (usc (usc (usc (usc (usc ar 111 f111) 112 f112) 113 f113) 114 f114) 115 f115) 87 f87) 91 f91) 92 f92) 93 f93) tx oc rl ou tl, q)) (HW_e (usc_uu _ 8064 _ _) (show usc (usc (usc (usc (usc (usc (usc (usc (usc ar 111 f111) 112 f112) 113 f113) 114 f114) 87 f87) 91 f91) 92 f92) 93 f93) 115 f115 = usc (usc (usc (usc (usc (usc (usc (usc (usc ar 111 f111) 112 f112) 113 f113) 114 f114) 115 f115) 87 f87) 91 f91) 92 f92) 93 f93 by repeat (first | rfl | rw [usc_sw _ _ 115 _ _ rfl]))) ?_
    refine RQ.seg 14 (pc' := 119) (L' := [some (.ref 80)]) (st' := [.int (iI (sc 8061))]) (g1 := (HW (usc (usc (usc (usc (usc sc 8000 0) 8032 (sc 8061)) 8056 (sc 8063)) 8059 (sc 8062)) 8064 283) (usc (usc (usc (usc (usc (usc (usc (usc (usc ar 111 f111) 112 f112) 113 f113) 114 f114) 115 f115) 87 f87) 91 f91) 92 f92) 93 f93) tx oc rl ou tl, q)) rfl ?_
    refine RQ.ret rfl rfl ?_
    rw [if_pos (by omega)]
    have hZ := hZi (by omega)
    exact ⟨by rw [show sc 8061 = dN (zD Z) from hZ.2.1], _, _, rfl, (by repeat (first | exact Same.rf | refine Same.us rfl ?_)), (by repeat (first | exact Same.rf | refine Same.us rfl ?_)), fun _ => ⟨SeO.cp hz rfl h87 h91 h111 h112 h113 hZ.1, NtB.cp (by omega) hO rfl rfl h92 h93 h114 h115 hZ.2⟩, fun z => absurd (by omega) z⟩
  · skip
    refine RQ.seg 1 (pc' := 13) (L' := [some (.ref 80)]) (st' := [.int (iI (-1))]) (g1 := (HW (usc sc 8000 0) ar tx oc rl ou tl, q)) rfl ?_
    refine RQ.ret rfl rfl ?_
    rw [if_neg (by omega)]
    exact ⟨rfl, _, _, rfl, (by repeat (first | exact Same.rf | refine Same.us rfl ?_)), (by repeat (first | exact Same.rf | refine Same.us rfl ?_)), fun z => absurd z (by omega), fun _ => ⟨rfl, rfl⟩⟩
