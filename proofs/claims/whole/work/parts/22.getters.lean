/-! getters and setters of both sides, by wip/tools -/
def kc0 : Int → Int := fun i => if i = 0 then 120 else if i = 1 then 104 else if i = 2 then 99 else if i = 3 then 102 else 0
def kc1 : Int → Int := fun i => if i = 0 then 97 else if i = 1 then 110 else if i = 2 then 112 else 0
def kc2 : Int → Int := fun i => if i = 0 then 112 else if i = 1 then 115 else if i = 2 then 107 else if i = 3 then 113 else 0
def kc3 : Int → Int := fun i => if i = 0 then 100 else if i = 1 then 104 else if i = 2 then 99 else if i = 3 then 102 else if i = 4 then 111 else if i = 5 then 107 else 0
def kc4 : Int → Int := fun i => if i = 0 then 10 else if i = 1 then 0 else if i = 2 then 0 else if i = 3 then 0 else 0
def kc5 : Int → Int := fun i => if i = 0 then 0 else if i = 1 then 3 else if i = 2 then 1 else if i = 3 then 30 else 0
def kc6 : Int → Int := fun i => if i = 0 then 0 else if i = 1 then 1 else if i = 2 then 0 else if i = 3 then 1 else 0
def kc7 : Int → Int := fun i => if i = 0 then 5 else if i = 1 then 9 else if i = 2 then 9 else if i = 3 then 60 else 0
def kc8 : Int → Int := fun i => if i = 0 then 0 else if i = 1 then 6 else if i = 2 then 1 else 0
def kc9 : Int → Int := fun i => if i = 0 then 0 else if i = 1 then 1 else if i = 2 then 1 else 0
def kc10 : Int → Int := fun i => if i = 0 then 30 else if i = 1 then 12 else if i = 2 then 5 else 0
def kc11 : Int → Int := fun i => if i = 0 then 0 else if i = 1 then 0 else if i = 2 then 0 else if i = 3 then 0 else 0
def kc12 : Int → Int := fun i => if i = 0 then 99 else if i = 1 then 99 else if i = 2 then 99 else if i = 3 then 2 else 0
def kc13 : Int → Int := fun i => if i = 0 then 61 else if i = 1 then 60 else if i = 2 then 62 else 0
def sLaw (n : Int) (f : Int → Int) (j : Int) : Int := if 0 < n ∧ 0 ≤ j ∧ j ≤ 3 then f j else -1
theorem m_law {K : PK} {d : Nat} {sc : Nat → Int} {ar : Nat → Int → Int} {tx oc : Nat} {rl : Nat → Option Nat} {ou : Nat → Int64} {tl : List PO} {q : Nat × Nat} {j : Int} (rj : -2147483648 ≤ j ∧ j < 2147483648) (hnb : 0 ≤ sc 8025 ∧ sc 8025 ≤ 3) : CallR K (d + 2) 187 [.ref 80, .int (iI j)] (HW sc ar tx oc rl ou tl, q) (some (.int (iI (sLaw (sc 8025) (ar 87) j)))) (HW (usc sc 8000 0) ar tx oc rl ou tl, q) := by
  apply CQ.x
  refine CQ.of (own := 11) (n := 2) (ini := false) (rt := (some .int)) (cd := cd187) (by decide +kernel) rfl (by decide +kernel) rfl (Nat.le_of_ble_eq_true rfl) ?_
  refine RQ.seg 5 (pc' := 9) (L' := [some (.ref 80), some (.int (iI j))]) (st' := [.int (iI (sc 8025))]) (g1 := (HW (usc sc 8000 0) ar tx oc rl ou tl, q)) rfl ?_
  refine RQ.if1 (a := (sc 8025)) rfl rfl rfl (by omega) (fun (h1 : sc 8025 ≤ 0) => ?_) (fun (h1 : ¬ sc 8025 ≤ 0) => ?_)
  · skip
    refine RQ.seg 1 (pc' := 34) (L' := [some (.ref 80), some (.int (iI j))]) (st' := [.int (iI (-1))]) (g1 := (HW (usc sc 8000 0) ar tx oc rl ou tl, q)) rfl ?_
    refine RQ.ret rfl rfl ?_
    refine ⟨?_, ?_⟩ <;> ((try unfold sLaw); (repeat (first | rw [if_pos (by omega)] | rw [if_neg (by omega)])); (try rfl))
  · skip
    refine RQ.seg 1 (pc' := 13) (L' := [some (.ref 80), some (.int (iI j))]) (st' := [.int (iI j)]) (g1 := (HW (usc sc 8000 0) ar tx oc rl ou tl, q)) rfl ?_
    refine RQ.seg 1 (pc' := 14) (L' := [some (.ref 80), some (.int (iI j))]) (st' := [.long ((iI j).toInt64)]) (g1 := (HW (usc sc 8000 0) ar tx oc rl ou tl, q)) rfl ?_
    refine RQ.to (L' := [some (.ref 80), some (.int (iI j))]) (st' := [.long (lL j)]) rfl (by rw [iI_64 (by omega)]) ?_
    refine RQ.seg 2 (pc' := 18) (L' := [some (.ref 80), some (.int (iI j))]) (st' := [.long (lL 3), .long (lL 0), .long (lL j)]) (g1 := (HW (usc sc 8000 0) ar tx oc rl ou tl, q)) rfl ?_
    rcases Decidable.em (0 ≤ j ∧ j ≤ 3) with h2 | h2
    · skip
      refine RQ.call rfl rfl (m_isIn_t (by omega) (by omega) (by omega) h2) ?_
      refine RQ.seg 4 (pc' := 29) (L' := [some (.ref 80), some (.int (iI j))]) (st' := [.int (iI j), .ref 87]) (g1 := (HW (usc sc 8000 0) ar tx oc rl ou tl, q)) rfl ?_
      refine RQ.iald (z := j) rfl rfl rfl (by omega) (by decide) ?_
      refine RQ.seg 1 (pc' := 34) (L' := [some (.ref 80), some (.int (iI j))]) (st' := [.int (iI ((ar 87) j))]) (g1 := (HW (usc sc 8000 0) ar tx oc rl ou tl, q)) rfl ?_
      refine RQ.ret rfl rfl ?_
      refine ⟨?_, ?_⟩ <;> ((try unfold sLaw); (repeat (first | rw [if_pos (by omega)] | rw [if_neg (by omega)])); (try rfl))
    · skip
      refine RQ.call rfl rfl (m_isIn_f (by omega) (by omega) (by omega) h2) ?_
      refine RQ.seg 2 (pc' := 34) (L' := [some (.ref 80), some (.int (iI j))]) (st' := [.int (iI (-1))]) (g1 := (HW (usc sc 8000 0) ar tx oc rl ou tl, q)) rfl ?_
      refine RQ.ret rfl rfl ?_
      refine ⟨?_, ?_⟩ <;> ((try unfold sLaw); (repeat (first | rw [if_pos (by omega)] | rw [if_neg (by omega)])); (try rfl))
theorem x_law {K : PK} {d : Nat} {sc : Nat → Int} {ar : Nat → Int → Int} {tx oc : Nat} {rl : Nat → Option Nat} {ou : Nat → Int64} {tl : List PO} {q : Nat × Nat} {j : Int} (rj : -2147483648 ≤ j ∧ j < 2147483648) (hnb : 0 ≤ sc 304 ∧ sc 304 ≤ 3) : CallR K (d + 2) 111 [.ref 0, .int (iI j)] (HW sc ar tx oc rl ou tl, q) (some (.int (iI (sLaw (sc 304) (ar 32) j)))) (HW sc ar tx oc rl ou tl, q) := by
  apply CQ.x
  refine CQ.of (own := 10) (n := 2) (ini := false) (rt := (some .int)) (cd := cd111) (by decide +kernel) rfl (by decide +kernel) rfl (Nat.le_of_ble_eq_true rfl) ?_
  refine RQ.seg 2 (pc' := 4) (L' := [some (.ref 0), some (.int (iI j))]) (st' := [.ref 3]) (g1 := (HW sc ar tx oc rl ou tl, q)) rfl ?_
  rcases Decidable.em (0 < sc 304) with h1 | h1
  · skip
    refine RQ.call rfl rfl (x_stands_t hnb h1) ?_
    refine RQ.seg 2 (pc' := 11) (L' := [some (.ref 0), some (.int (iI j))]) (st' := [.int (iI j)]) (g1 := (HW sc ar tx oc rl ou tl, q)) rfl ?_
    refine RQ.if1 (a := j) rfl rfl rfl (by omega) (fun (h2 : j < 0) => ?_) (fun (h2 : ¬ j < 0) => ?_)
    · skip
      refine RQ.seg 1 (pc' := 20) (L' := [some (.ref 0), some (.int (iI j))]) (st' := [.int (iI (-1))]) (g1 := (HW sc ar tx oc rl ou tl, q)) rfl ?_
      refine RQ.ret rfl rfl ?_
      refine ⟨?_, ?_⟩ <;> ((try unfold sLaw); (repeat (first | rw [if_pos (by omega)] | rw [if_neg (by omega)])); (try rfl))
    · skip
      refine RQ.seg 2 (pc' := 16) (L' := [some (.ref 0), some (.int (iI j))]) (st' := [.int (iI 3), .int (iI j)]) (g1 := (HW sc ar tx oc rl ou tl, q)) rfl ?_
      refine RQ.if2 (a := j) (b := 3) rfl rfl rfl rfl (by omega) (by omega) (fun (h3 : j ≤ 3) => ?_) (fun (h3 : ¬ j ≤ 3) => ?_)
      · skip
        refine RQ.seg 4 (pc' := 29) (L' := [some (.ref 0), some (.int (iI j))]) (st' := [.int (iI j), .ref 32]) (g1 := (HW sc ar tx oc rl ou tl, q)) rfl ?_
        refine RQ.iald (z := j) rfl rfl rfl (by omega) (by decide) ?_
        refine RQ.ret rfl rfl ?_
        refine ⟨?_, ?_⟩ <;> ((try unfold sLaw); (repeat (first | rw [if_pos (by omega)] | rw [if_neg (by omega)])); (try rfl))
      · skip
        refine RQ.seg 1 (pc' := 20) (L' := [some (.ref 0), some (.int (iI j))]) (st' := [.int (iI (-1))]) (g1 := (HW sc ar tx oc rl ou tl, q)) rfl ?_
        refine RQ.ret rfl rfl ?_
        refine ⟨?_, ?_⟩ <;> ((try unfold sLaw); (repeat (first | rw [if_pos (by omega)] | rw [if_neg (by omega)])); (try rfl))
  · skip
    refine RQ.call rfl rfl (x_stands_f hnb h1) ?_
    refine RQ.seg 2 (pc' := 20) (L' := [some (.ref 0), some (.int (iI j))]) (st' := [.int (iI (-1))]) (g1 := (HW sc ar tx oc rl ou tl, q)) rfl ?_
    refine RQ.ret rfl rfl ?_
    refine ⟨?_, ?_⟩ <;> ((try unfold sLaw); (repeat (first | rw [if_pos (by omega)] | rw [if_neg (by omega)])); (try rfl))
def sCount (a0 a1 a2 a3 a4 a5 a6 a7 j : Int) : Int := if j = 0 then a0 else if j = 1 then a1 else if j = 2 then a2 else if j = 3 then a3 else if j = 4 then a4 else if j = 5 then a5 else if j = 6 then a6 else if j = 7 then a7 else -1000000
theorem m_count {K : PK} {d : Nat} {sc : Nat → Int} {ar : Nat → Int → Int} {tx oc : Nat} {rl : Nat → Option Nat} {ou : Nat → Int64} {tl : List PO} {q : Nat × Nat} {j : Int} (rj : -2147483648 ≤ j ∧ j < 2147483648) : CallR K (d + 2) 235 [.ref 80, .int (iI j)] (HW sc ar tx oc rl ou tl, q) (some (.int (iI (sCount (sc 8025) (sc 8024) (sc 8007) (sc 8006) (sc 8032) (sc 8059) (ar 92 0 + ar 92 1 + ar 92 2) (sc 8056) j)))) (HW (usc sc 8000 0) ar tx oc rl ou tl, q) := by
  apply CQ.x
  refine CQ.of (own := 11) (n := 2) (ini := false) (rt := (some .int)) (cd := cd235) (by decide +kernel) rfl (by decide +kernel) rfl (Nat.le_of_ble_eq_true rfl) ?_
  refine RQ.seg 4 (pc' := 6) (L' := [some (.ref 80), some (.int (iI j))]) (st' := [.int (iI j)]) (g1 := (HW (usc sc 8000 0) ar tx oc rl ou tl, q)) rfl ?_
  rcases (show j = 0 ∨ j = 1 ∨ j = 2 ∨ j = 3 ∨ j = 4 ∨ j = 5 ∨ j = 6 ∨ j = 7 ∨ (j < 0 ∨ 7 < j) by omega) with h1 | h1 | h1 | h1 | h1 | h1 | h1 | h1 | h1
  · skip
    refine RQ.tsw (z := j) (o := 46) rfl rfl (by omega) (by rw [if_neg (by omega), h1]; rfl) rfl ?_
    refine RQ.seg 2 (pc' := 56) (L' := [some (.ref 80), some (.int (iI j))]) (st' := [.int (iI (sc 8025))]) (g1 := (HW (usc sc 8000 0) ar tx oc rl ou tl, q)) rfl ?_
    refine RQ.ret rfl rfl ?_
    refine ⟨?_, ?_⟩ <;> ((try unfold sCount); (repeat (first | rw [if_pos (by omega)] | rw [if_neg (by omega)])); (try rfl))
  · skip
    refine RQ.tsw (z := j) (o := 51) rfl rfl (by omega) (by rw [if_neg (by omega), h1]; rfl) rfl ?_
    refine RQ.seg 2 (pc' := 61) (L' := [some (.ref 80), some (.int (iI j))]) (st' := [.int (iI (sc 8024))]) (g1 := (HW (usc sc 8000 0) ar tx oc rl ou tl, q)) rfl ?_
    refine RQ.ret rfl rfl ?_
    refine ⟨?_, ?_⟩ <;> ((try unfold sCount); (repeat (first | rw [if_pos (by omega)] | rw [if_neg (by omega)])); (try rfl))
  · skip
    refine RQ.tsw (z := j) (o := 56) rfl rfl (by omega) (by rw [if_neg (by omega), h1]; rfl) rfl ?_
    refine RQ.seg 2 (pc' := 66) (L' := [some (.ref 80), some (.int (iI j))]) (st' := [.int (iI (sc 8007))]) (g1 := (HW (usc sc 8000 0) ar tx oc rl ou tl, q)) rfl ?_
    refine RQ.ret rfl rfl ?_
    refine ⟨?_, ?_⟩ <;> ((try unfold sCount); (repeat (first | rw [if_pos (by omega)] | rw [if_neg (by omega)])); (try rfl))
  · skip
    refine RQ.tsw (z := j) (o := 61) rfl rfl (by omega) (by rw [if_neg (by omega), h1]; rfl) rfl ?_
    refine RQ.seg 2 (pc' := 71) (L' := [some (.ref 80), some (.int (iI j))]) (st' := [.int (iI (sc 8006))]) (g1 := (HW (usc sc 8000 0) ar tx oc rl ou tl, q)) rfl ?_
    refine RQ.ret rfl rfl ?_
    refine ⟨?_, ?_⟩ <;> ((try unfold sCount); (repeat (first | rw [if_pos (by omega)] | rw [if_neg (by omega)])); (try rfl))
  · skip
    refine RQ.tsw (z := j) (o := 66) rfl rfl (by omega) (by rw [if_neg (by omega), h1]; rfl) rfl ?_
    refine RQ.seg 2 (pc' := 76) (L' := [some (.ref 80), some (.int (iI j))]) (st' := [.int (iI (sc 8032))]) (g1 := (HW (usc sc 8000 0) ar tx oc rl ou tl, q)) rfl ?_
    refine RQ.ret rfl rfl ?_
    refine ⟨?_, ?_⟩ <;> ((try unfold sCount); (repeat (first | rw [if_pos (by omega)] | rw [if_neg (by omega)])); (try rfl))
  · skip
    refine RQ.tsw (z := j) (o := 71) rfl rfl (by omega) (by rw [if_neg (by omega), h1]; rfl) rfl ?_
    refine RQ.seg 2 (pc' := 81) (L' := [some (.ref 80), some (.int (iI j))]) (st' := [.int (iI (sc 8059))]) (g1 := (HW (usc sc 8000 0) ar tx oc rl ou tl, q)) rfl ?_
    refine RQ.ret rfl rfl ?_
    refine ⟨?_, ?_⟩ <;> ((try unfold sCount); (repeat (first | rw [if_pos (by omega)] | rw [if_neg (by omega)])); (try rfl))
  · skip
    refine RQ.tsw (z := j) (o := 76) rfl rfl (by omega) (by rw [if_neg (by omega), h1]; rfl) rfl ?_
    refine RQ.seg 3 (pc' := 87) (L' := [some (.ref 80), some (.int (iI j))]) (st' := [.int (iI 0), .ref 92]) (g1 := (HW (usc sc 8000 0) ar tx oc rl ou tl, q)) rfl ?_
    refine RQ.iald (z := 0) rfl rfl rfl (by omega) (by decide) ?_
    refine RQ.seg 3 (pc' := 93) (L' := [some (.ref 80), some (.int (iI j))]) (st' := [.int (iI 1), .ref 92, .int (iI ((ar 92) 0))]) (g1 := (HW (usc sc 8000 0) ar tx oc rl ou tl, q)) rfl ?_
    refine RQ.iald (z := 1) rfl rfl rfl (by omega) (by decide) ?_
    refine RQ.seg 4 (pc' := 100) (L' := [some (.ref 80), some (.int (iI j))]) (st' := [.int (iI 2), .ref 92, .int ((iI ((ar 92) 0)) + (iI ((ar 92) 1)))]) (g1 := (HW (usc sc 8000 0) ar tx oc rl ou tl, q)) rfl ?_
    refine RQ.iald (z := 2) rfl rfl rfl (by omega) (by decide) ?_
    refine RQ.seg 1 (pc' := 102) (L' := [some (.ref 80), some (.int (iI j))]) (st' := [.int (((iI ((ar 92) 0)) + (iI ((ar 92) 1))) + (iI ((ar 92) 2)))]) (g1 := (HW (usc sc 8000 0) ar tx oc rl ou tl, q)) rfl ?_
    refine RQ.to (L' := [some (.ref 80), some (.int (iI j))]) (st' := [.int (iI ((ar 92) 0 + ((ar 92) 1) + ((ar 92) 2)))]) rfl (by simp only [iI_add, iI_sub, iI_mul, iI_neg]) ?_
    refine RQ.ret rfl rfl ?_
    refine ⟨?_, ?_⟩ <;> ((try unfold sCount); (repeat (first | rw [if_pos (by omega)] | rw [if_neg (by omega)])); (try rfl))
  · skip
    refine RQ.tsw (z := j) (o := 97) rfl rfl (by omega) (by rw [if_neg (by omega), h1]; rfl) rfl ?_
    refine RQ.seg 2 (pc' := 107) (L' := [some (.ref 80), some (.int (iI j))]) (st' := [.int (iI (sc 8056))]) (g1 := (HW (usc sc 8000 0) ar tx oc rl ou tl, q)) rfl ?_
    refine RQ.ret rfl rfl ?_
    refine ⟨?_, ?_⟩ <;> ((try unfold sCount); (repeat (first | rw [if_pos (by omega)] | rw [if_neg (by omega)])); (try rfl))
  · skip
    refine RQ.tsw (z := j) (o := 102) rfl rfl (by omega) (if_pos h1) rfl ?_
    refine RQ.seg 1 (pc' := 111) (L' := [some (.ref 80), some (.int (iI j))]) (st' := [.int (iI (-1000000))]) (g1 := (HW (usc sc 8000 0) ar tx oc rl ou tl, q)) rfl ?_
    refine RQ.ret rfl rfl ?_
    refine ⟨?_, ?_⟩ <;> ((try unfold sCount); (repeat (first | rw [if_pos (by omega)] | rw [if_neg (by omega)])); (try rfl))
theorem x_sia {K : PK} {d : Nat} {sc : Nat → Int} {ar : Nat → Int → Int} {tx oc : Nat} {rl : Nat → Option Nat} {ou : Nat → Int64} {tl : List PO} {q : Nat × Nat}  : CallR K (d + 1) 95 [.ref 31] (HW sc ar tx oc rl ou tl, q) (some (.int (iI (ar 37 0 + ar 37 1 + ar 37 2)))) (HW sc ar tx oc rl ou tl, q) := by
  apply CQ.x
  refine CQ.of (own := 8) (n := 1) (ini := false) (rt := (some .int)) (cd := cd95) (by decide +kernel) rfl (by decide +kernel) rfl (Nat.le_of_ble_eq_true rfl) ?_
  refine RQ.seg 3 (pc' := 5) (L' := [some (.ref 31)]) (st' := [.int (iI 0), .ref 37]) (g1 := (HW sc ar tx oc rl ou tl, q)) rfl ?_
  refine RQ.iald (z := 0) rfl rfl rfl (by omega) (by decide) ?_
  refine RQ.seg 3 (pc' := 11) (L' := [some (.ref 31)]) (st' := [.int (iI 1), .ref 37, .int (iI ((ar 37) 0))]) (g1 := (HW sc ar tx oc rl ou tl, q)) rfl ?_
  refine RQ.iald (z := 1) rfl rfl rfl (by omega) (by decide) ?_
  refine RQ.seg 4 (pc' := 18) (L' := [some (.ref 31)]) (st' := [.int (iI 2), .ref 37, .int ((iI ((ar 37) 0)) + (iI ((ar 37) 1)))]) (g1 := (HW sc ar tx oc rl ou tl, q)) rfl ?_
  refine RQ.iald (z := 2) rfl rfl rfl (by omega) (by decide) ?_
  refine RQ.seg 1 (pc' := 20) (L' := [some (.ref 31)]) (st' := [.int (((iI ((ar 37) 0)) + (iI ((ar 37) 1))) + (iI ((ar 37) 2)))]) (g1 := (HW sc ar tx oc rl ou tl, q)) rfl ?_
  refine RQ.to (L' := [some (.ref 31)]) (st' := [.int (iI ((ar 37) 0 + ((ar 37) 1) + ((ar 37) 2)))]) rfl (by simp only [iI_add, iI_sub, iI_mul, iI_neg]) ?_
  refine RQ.ret rfl rfl ?_
  refine ⟨?_, ?_⟩ <;> ((repeat (first | rw [if_pos (by omega)] | rw [if_neg (by omega)])); (try rfl))
theorem x_count {K : PK} {d : Nat} {sc : Nat → Int} {ar : Nat → Int → Int} {tx oc : Nat} {rl : Nat → Option Nat} {ou : Nat → Int64} {tl : List PO} {q : Nat × Nat} {j : Int} (rj : -2147483648 ≤ j ∧ j < 2147483648) : CallR K (d + 2) 136 [.ref 0, .int (iI j)] (HW sc ar tx oc rl ou tl, q) (some (.int (iI (sCount (sc 304) (sc 303) (sc 5) (sc 101) (sc 3106) (sc 3107) (ar 37 0 + ar 37 1 + ar 37 2) (sc 3105) j)))) (HW sc ar tx oc rl ou tl, q) := by
  apply CQ.x
  refine CQ.of (own := 10) (n := 2) (ini := false) (rt := (some .int)) (cd := cd136) (by decide +kernel) rfl (by decide +kernel) rfl (Nat.le_of_ble_eq_true rfl) ?_
  refine RQ.seg 1 (pc' := 1) (L' := [some (.ref 0), some (.int (iI j))]) (st' := [.int (iI j)]) (g1 := (HW sc ar tx oc rl ou tl, q)) rfl ?_
  rcases (show j = 0 ∨ j = 1 ∨ j = 2 ∨ j = 3 ∨ j = 4 ∨ j = 5 ∨ j = 6 ∨ j = 7 ∨ (j < 0 ∨ 7 < j) by omega) with h1 | h1 | h1 | h1 | h1 | h1 | h1 | h1 | h1
  · skip
    refine RQ.tsw (z := j) (o := 47) rfl rfl (by omega) (by rw [if_neg (by omega), h1]; rfl) rfl ?_
    refine RQ.seg 3 (pc' := 55) (L' := [some (.ref 0), some (.int (iI j))]) (st' := [.int (iI (sc 304))]) (g1 := (HW sc ar tx oc rl ou tl, q)) rfl ?_
    refine RQ.ret rfl rfl ?_
    refine ⟨?_, ?_⟩ <;> ((try unfold sCount); (repeat (first | rw [if_pos (by omega)] | rw [if_neg (by omega)])); (try rfl))
  · skip
    refine RQ.tsw (z := j) (o := 55) rfl rfl (by omega) (by rw [if_neg (by omega), h1]; rfl) rfl ?_
    refine RQ.seg 3 (pc' := 63) (L' := [some (.ref 0), some (.int (iI j))]) (st' := [.int (iI (sc 303))]) (g1 := (HW sc ar tx oc rl ou tl, q)) rfl ?_
    refine RQ.ret rfl rfl ?_
    refine ⟨?_, ?_⟩ <;> ((try unfold sCount); (repeat (first | rw [if_pos (by omega)] | rw [if_neg (by omega)])); (try rfl))
  · skip
    refine RQ.tsw (z := j) (o := 63) rfl rfl (by omega) (by rw [if_neg (by omega), h1]; rfl) rfl ?_
    refine RQ.seg 2 (pc' := 68) (L' := [some (.ref 0), some (.int (iI j))]) (st' := [.int (iI (sc 5))]) (g1 := (HW sc ar tx oc rl ou tl, q)) rfl ?_
    refine RQ.ret rfl rfl ?_
    refine ⟨?_, ?_⟩ <;> ((try unfold sCount); (repeat (first | rw [if_pos (by omega)] | rw [if_neg (by omega)])); (try rfl))
  · skip
    refine RQ.tsw (z := j) (o := 68) rfl rfl (by omega) (by rw [if_neg (by omega), h1]; rfl) rfl ?_
    refine RQ.seg 3 (pc' := 76) (L' := [some (.ref 0), some (.int (iI j))]) (st' := [.int (iI (sc 101))]) (g1 := (HW sc ar tx oc rl ou tl, q)) rfl ?_
    refine RQ.ret rfl rfl ?_
    refine ⟨?_, ?_⟩ <;> ((try unfold sCount); (repeat (first | rw [if_pos (by omega)] | rw [if_neg (by omega)])); (try rfl))
  · skip
    refine RQ.tsw (z := j) (o := 76) rfl rfl (by omega) (by rw [if_neg (by omega), h1]; rfl) rfl ?_
    refine RQ.seg 3 (pc' := 84) (L' := [some (.ref 0), some (.int (iI j))]) (st' := [.int (iI (sc 3106))]) (g1 := (HW sc ar tx oc rl ou tl, q)) rfl ?_
    refine RQ.ret rfl rfl ?_
    refine ⟨?_, ?_⟩ <;> ((try unfold sCount); (repeat (first | rw [if_pos (by omega)] | rw [if_neg (by omega)])); (try rfl))
  · skip
    refine RQ.tsw (z := j) (o := 84) rfl rfl (by omega) (by rw [if_neg (by omega), h1]; rfl) rfl ?_
    refine RQ.seg 3 (pc' := 92) (L' := [some (.ref 0), some (.int (iI j))]) (st' := [.int (iI (sc 3107))]) (g1 := (HW sc ar tx oc rl ou tl, q)) rfl ?_
    refine RQ.ret rfl rfl ?_
    refine ⟨?_, ?_⟩ <;> ((try unfold sCount); (repeat (first | rw [if_pos (by omega)] | rw [if_neg (by omega)])); (try rfl))
  · skip
    refine RQ.tsw (z := j) (o := 92) rfl rfl (by omega) (by rw [if_neg (by omega), h1]; rfl) rfl ?_
    refine RQ.seg 2 (pc' := 97) (L' := [some (.ref 0), some (.int (iI j))]) (st' := [.ref 31]) (g1 := (HW sc ar tx oc rl ou tl, q)) rfl ?_
    refine RQ.call rfl rfl x_sia ?_
    refine RQ.ret rfl rfl ?_
    refine ⟨?_, ?_⟩ <;> ((try unfold sCount); (repeat (first | rw [if_pos (by omega)] | rw [if_neg (by omega)])); (try rfl))
  · skip
    refine RQ.tsw (z := j) (o := 100) rfl rfl (by omega) (by rw [if_neg (by omega), h1]; rfl) rfl ?_
    refine RQ.seg 3 (pc' := 108) (L' := [some (.ref 0), some (.int (iI j))]) (st' := [.int (iI (sc 3105))]) (g1 := (HW sc ar tx oc rl ou tl, q)) rfl ?_
    refine RQ.ret rfl rfl ?_
    refine ⟨?_, ?_⟩ <;> ((try unfold sCount); (repeat (first | rw [if_pos (by omega)] | rw [if_neg (by omega)])); (try rfl))
  · skip
    refine RQ.tsw (z := j) (o := 108) rfl rfl (by omega) (if_pos h1) rfl ?_
    refine RQ.seg 1 (pc' := 111) (L' := [some (.ref 0), some (.int (iI j))]) (st' := [.int (iI (-1000000))]) (g1 := (HW sc ar tx oc rl ou tl, q)) rfl ?_
    refine RQ.ret rfl rfl ?_
    refine ⟨?_, ?_⟩ <;> ((try unfold sCount); (repeat (first | rw [if_pos (by omega)] | rw [if_neg (by omega)])); (try rfl))
theorem m_end_t {K : PK} {d : Nat} {sc : Nat → Int} {ar : Nat → Int → Int} {tx oc : Nat} {rl : Nat → Option Nat} {ou : Nat → Int64} {tl : List PO} {q : Nat × Nat} {n : Int} (rn : -2147483648 ≤ n ∧ n < 2147483648) (hl : 0 ≤ sc 8006 ∧ sc 8006 ≤ 160)  (hP : 0 ≤ n ∧ n ≤ sc 8006) : CallR K (d + 1) 156 [.ref 80, .int (iI n)] (HW sc ar tx oc rl ou tl, q) (some (.int (iI 1))) (HW (usc (usc sc 8000 0) 8006 n) ar tx oc rl ou tl, q) := by
  apply CQ.x
  refine CQ.of (own := 11) (n := 2) (ini := false) (rt := (some .boolean)) (cd := cd156) (by decide +kernel) rfl (by decide +kernel) rfl (Nat.le_of_ble_eq_true rfl) ?_
  refine RQ.seg 4 (pc' := 6) (L' := [some (.ref 80), some (.int (iI n))]) (st' := [.int (iI n)]) (g1 := (HW (usc sc 8000 0) ar tx oc rl ou tl, q)) rfl ?_
  refine RQ.if1 (a := n) rfl rfl rfl (by omega) (fun (h1 : n < 0) => ?_) (fun (h1 : ¬ n < 0) => ?_)
  · skip
    refine RQ.seg 1 (pc' := 18) (L' := [some (.ref 80), some (.int (iI n))]) (st' := [.int (iI 0)]) (g1 := (HW (usc sc 8000 0) ar tx oc rl ou tl, q)) rfl ?_
    refine RQ.ret rfl rfl ?_
    first | exact ⟨rfl, rfl⟩ | (exfalso; omega)
  · skip
    refine RQ.seg 3 (pc' := 14) (L' := [some (.ref 80), some (.int (iI n))]) (st' := [.int (iI (sc 8006)), .int (iI n)]) (g1 := (HW (usc sc 8000 0) ar tx oc rl ou tl, q)) rfl ?_
    refine RQ.if2 (a := n) (b := (sc 8006)) rfl rfl rfl rfl (by omega) (by omega) (fun (h2 : n ≤ sc 8006) => ?_) (fun (h2 : ¬ n ≤ sc 8006) => ?_)
    · skip
      refine RQ.seg 4 (pc' := 25) (L' := [some (.ref 80), some (.int (iI n))]) (st' := [.int (iI 1)]) (g1 := (HW (usc (usc sc 8000 0) 8006 n) ar tx oc rl ou tl, q)) rfl ?_
      refine RQ.ret rfl rfl ?_
      first | exact ⟨rfl, rfl⟩ | (exfalso; omega)
    · skip
      refine RQ.seg 1 (pc' := 18) (L' := [some (.ref 80), some (.int (iI n))]) (st' := [.int (iI 0)]) (g1 := (HW (usc sc 8000 0) ar tx oc rl ou tl, q)) rfl ?_
      refine RQ.ret rfl rfl ?_
      first | exact ⟨rfl, rfl⟩ | (exfalso; omega)
theorem m_end_f {K : PK} {d : Nat} {sc : Nat → Int} {ar : Nat → Int → Int} {tx oc : Nat} {rl : Nat → Option Nat} {ou : Nat → Int64} {tl : List PO} {q : Nat × Nat} {n : Int} (rn : -2147483648 ≤ n ∧ n < 2147483648) (hl : 0 ≤ sc 8006 ∧ sc 8006 ≤ 160)  (hP : ¬ (0 ≤ n ∧ n ≤ sc 8006)) : CallR K (d + 1) 156 [.ref 80, .int (iI n)] (HW sc ar tx oc rl ou tl, q) (some (.int (iI 0))) (HW (usc sc 8000 0) ar tx oc rl ou tl, q) := by
  apply CQ.x
  refine CQ.of (own := 11) (n := 2) (ini := false) (rt := (some .boolean)) (cd := cd156) (by decide +kernel) rfl (by decide +kernel) rfl (Nat.le_of_ble_eq_true rfl) ?_
  refine RQ.seg 4 (pc' := 6) (L' := [some (.ref 80), some (.int (iI n))]) (st' := [.int (iI n)]) (g1 := (HW (usc sc 8000 0) ar tx oc rl ou tl, q)) rfl ?_
  refine RQ.if1 (a := n) rfl rfl rfl (by omega) (fun (h1 : n < 0) => ?_) (fun (h1 : ¬ n < 0) => ?_)
  · skip
    refine RQ.seg 1 (pc' := 18) (L' := [some (.ref 80), some (.int (iI n))]) (st' := [.int (iI 0)]) (g1 := (HW (usc sc 8000 0) ar tx oc rl ou tl, q)) rfl ?_
    refine RQ.ret rfl rfl ?_
    first | exact ⟨rfl, rfl⟩ | (exfalso; omega)
  · skip
    refine RQ.seg 3 (pc' := 14) (L' := [some (.ref 80), some (.int (iI n))]) (st' := [.int (iI (sc 8006)), .int (iI n)]) (g1 := (HW (usc sc 8000 0) ar tx oc rl ou tl, q)) rfl ?_
    refine RQ.if2 (a := n) (b := (sc 8006)) rfl rfl rfl rfl (by omega) (by omega) (fun (h2 : n ≤ sc 8006) => ?_) (fun (h2 : ¬ n ≤ sc 8006) => ?_)
    · skip
      refine RQ.seg 4 (pc' := 25) (L' := [some (.ref 80), some (.int (iI n))]) (st' := [.int (iI 1)]) (g1 := (HW (usc (usc sc 8000 0) 8006 n) ar tx oc rl ou tl, q)) rfl ?_
      refine RQ.ret rfl rfl ?_
      first | exact ⟨rfl, rfl⟩ | (exfalso; omega)
    · skip
      refine RQ.seg 1 (pc' := 18) (L' := [some (.ref 80), some (.int (iI n))]) (st' := [.int (iI 0)]) (g1 := (HW (usc sc 8000 0) ar tx oc rl ou tl, q)) rfl ?_
      refine RQ.ret rfl rfl ?_
      first | exact ⟨rfl, rfl⟩ | (exfalso; omega)
theorem x_end_t {K : PK} {d : Nat} {sc : Nat → Int} {ar : Nat → Int → Int} {tx oc : Nat} {rl : Nat → Option Nat} {ou : Nat → Int64} {tl : List PO} {q : Nat × Nat} {n : Int} (rn : -2147483648 ≤ n ∧ n < 2147483648) (hl : 0 ≤ sc 101 ∧ sc 101 ≤ 160)  (hP : 0 ≤ n ∧ n ≤ sc 101) : CallR K (d + 1) 106 [.ref 0, .int (iI n)] (HW sc ar tx oc rl ou tl, q) (some (.int (iI 1))) (HW (usc sc 101 n) ar tx oc rl ou tl, q) := by
  apply CQ.x
  refine CQ.of (own := 10) (n := 2) (ini := false) (rt := (some .boolean)) (cd := cd106) (by decide +kernel) rfl (by decide +kernel) rfl (Nat.le_of_ble_eq_true rfl) ?_
  refine RQ.seg 1 (pc' := 1) (L' := [some (.ref 0), some (.int (iI n))]) (st' := [.int (iI n)]) (g1 := (HW sc ar tx oc rl ou tl, q)) rfl ?_
  refine RQ.if1 (a := n) rfl rfl rfl (by omega) (fun (h1 : n < 0) => ?_) (fun (h1 : ¬ n < 0) => ?_)
  · skip
    refine RQ.seg 1 (pc' := 16) (L' := [some (.ref 0), some (.int (iI n))]) (st' := [.int (iI 0)]) (g1 := (HW sc ar tx oc rl ou tl, q)) rfl ?_
    refine RQ.ret rfl rfl ?_
    first | exact ⟨rfl, rfl⟩ | (exfalso; omega)
  · skip
    refine RQ.seg 4 (pc' := 12) (L' := [some (.ref 0), some (.int (iI n))]) (st' := [.int (iI (sc 101)), .int (iI n)]) (g1 := (HW sc ar tx oc rl ou tl, q)) rfl ?_
    refine RQ.if2 (a := n) (b := (sc 101)) rfl rfl rfl rfl (by omega) (by omega) (fun (h2 : n ≤ sc 101) => ?_) (fun (h2 : ¬ n ≤ sc 101) => ?_)
    · skip
      refine RQ.seg 5 (pc' := 26) (L' := [some (.ref 0), some (.int (iI n))]) (st' := [.int (iI 1)]) (g1 := (HW (usc sc 101 n) ar tx oc rl ou tl, q)) rfl ?_
      refine RQ.ret rfl rfl ?_
      first | exact ⟨rfl, rfl⟩ | (exfalso; omega)
    · skip
      refine RQ.seg 1 (pc' := 16) (L' := [some (.ref 0), some (.int (iI n))]) (st' := [.int (iI 0)]) (g1 := (HW sc ar tx oc rl ou tl, q)) rfl ?_
      refine RQ.ret rfl rfl ?_
      first | exact ⟨rfl, rfl⟩ | (exfalso; omega)
theorem x_end_f {K : PK} {d : Nat} {sc : Nat → Int} {ar : Nat → Int → Int} {tx oc : Nat} {rl : Nat → Option Nat} {ou : Nat → Int64} {tl : List PO} {q : Nat × Nat} {n : Int} (rn : -2147483648 ≤ n ∧ n < 2147483648) (hl : 0 ≤ sc 101 ∧ sc 101 ≤ 160)  (hP : ¬ (0 ≤ n ∧ n ≤ sc 101)) : CallR K (d + 1) 106 [.ref 0, .int (iI n)] (HW sc ar tx oc rl ou tl, q) (some (.int (iI 0))) (HW sc ar tx oc rl ou tl, q) := by
  apply CQ.x
  refine CQ.of (own := 10) (n := 2) (ini := false) (rt := (some .boolean)) (cd := cd106) (by decide +kernel) rfl (by decide +kernel) rfl (Nat.le_of_ble_eq_true rfl) ?_
  refine RQ.seg 1 (pc' := 1) (L' := [some (.ref 0), some (.int (iI n))]) (st' := [.int (iI n)]) (g1 := (HW sc ar tx oc rl ou tl, q)) rfl ?_
  refine RQ.if1 (a := n) rfl rfl rfl (by omega) (fun (h1 : n < 0) => ?_) (fun (h1 : ¬ n < 0) => ?_)
  · skip
    refine RQ.seg 1 (pc' := 16) (L' := [some (.ref 0), some (.int (iI n))]) (st' := [.int (iI 0)]) (g1 := (HW sc ar tx oc rl ou tl, q)) rfl ?_
    refine RQ.ret rfl rfl ?_
    first | exact ⟨rfl, rfl⟩ | (exfalso; omega)
  · skip
    refine RQ.seg 4 (pc' := 12) (L' := [some (.ref 0), some (.int (iI n))]) (st' := [.int (iI (sc 101)), .int (iI n)]) (g1 := (HW sc ar tx oc rl ou tl, q)) rfl ?_
    refine RQ.if2 (a := n) (b := (sc 101)) rfl rfl rfl rfl (by omega) (by omega) (fun (h2 : n ≤ sc 101) => ?_) (fun (h2 : ¬ n ≤ sc 101) => ?_)
    · skip
      refine RQ.seg 5 (pc' := 26) (L' := [some (.ref 0), some (.int (iI n))]) (st' := [.int (iI 1)]) (g1 := (HW (usc sc 101 n) ar tx oc rl ou tl, q)) rfl ?_
      refine RQ.ret rfl rfl ?_
      first | exact ⟨rfl, rfl⟩ | (exfalso; omega)
    · skip
      refine RQ.seg 1 (pc' := 16) (L' := [some (.ref 0), some (.int (iI n))]) (st' := [.int (iI 0)]) (g1 := (HW sc ar tx oc rl ou tl, q)) rfl ?_
      refine RQ.ret rfl rfl ?_
      first | exact ⟨rfl, rfl⟩ | (exfalso; omega)
theorem m_rule_t {K : PK} {d : Nat} {sc : Nat → Int} {ar : Nat → Int → Int} {tx oc : Nat} {rl : Nat → Option Nat} {ou : Nat → Int64} {tl : List PO} {q : Nat × Nat} {b r : Int} (rb : -2147483648 ≤ b ∧ b < 2147483648) (rr : -2147483648 ≤ r ∧ r < 2147483648) (hnb : 0 ≤ sc 8025 ∧ sc 8025 ≤ 3) (hr : 0 ≤ sc 8007 ∧ sc 8007 ≤ 4) (hP : (0 ≤ b ∧ b < sc 8025) ∧ -1 ≤ r ∧ r < sc 8007) : CallR K (d + 2) 189 [.ref 80, .int (iI b), .int (iI r)] (HW sc ar tx oc rl ou tl, q) (some (.int (iI 1))) (HW (usc sc 8000 0) (usc ar 91 (usz (ar 91) b r)) tx oc rl ou tl, q) := by
  apply CQ.x
  refine CQ.of (own := 11) (n := 3) (ini := false) (rt := (some .boolean)) (cd := cd189) (by decide +kernel) rfl (by decide +kernel) rfl (Nat.le_of_ble_eq_true rfl) ?_
  refine RQ.seg 5 (pc' := 7) (L' := [some (.ref 80), some (.int (iI b)), some (.int (iI r))]) (st' := [.int (iI b), .ref 80]) (g1 := (HW (usc sc 8000 0) ar tx oc rl ou tl, q)) rfl ?_
  rcases Decidable.em (0 ≤ b ∧ b < sc 8025) with h1 | h1
  · skip
    refine RQ.call rfl rfl (m_isBr_t (by omega) hnb h1) ?_
    refine RQ.seg 3 (pc' := 15) (L' := [some (.ref 80), some (.int (iI b)), some (.int (iI r))]) (st' := [.int (iI (-1)), .int (iI r)]) (g1 := (HW (usc sc 8000 0) ar tx oc rl ou tl, q)) rfl ?_
    refine RQ.if2 (a := r) (b := (-1)) rfl rfl rfl rfl (by omega) (by omega) (fun (h2 : r = (-1)) => ?_) (fun (h2 : ¬ r = (-1)) => ?_)
    · skip
      refine RQ.seg 4 (pc' := 42) (L' := [some (.ref 80), some (.int (iI b)), some (.int (iI r))]) (st' := [.int (iI r), .int (iI b), .ref 91]) (g1 := (HW (usc sc 8000 0) ar tx oc rl ou tl, q)) rfl ?_
      refine RQ.iast (z := b) (v := r) (g1 := (HW (usc sc 8000 0) (usc ar 91 (usz (ar 91) b r)) tx oc rl ou tl, q)) rfl rfl rfl rfl (by omega) (by decide) (HWa_91 rfl) ?_
      refine RQ.seg 1 (pc' := 44) (L' := [some (.ref 80), some (.int (iI b)), some (.int (iI r))]) (st' := [.int (iI 1)]) (g1 := (HW (usc sc 8000 0) (usc ar 91 (usz (ar 91) b r)) tx oc rl ou tl, q)) rfl ?_
      refine RQ.ret rfl rfl ?_
      first | exact ⟨rfl, rfl⟩ | (exfalso; omega)
    · skip
      refine RQ.seg 1 (pc' := 19) (L' := [some (.ref 80), some (.int (iI b)), some (.int (iI r))]) (st' := [.int (iI r)]) (g1 := (HW (usc sc 8000 0) ar tx oc rl ou tl, q)) rfl ?_
      refine RQ.seg 1 (pc' := 20) (L' := [some (.ref 80), some (.int (iI b)), some (.int (iI r))]) (st' := [.long ((iI r).toInt64)]) (g1 := (HW (usc sc 8000 0) ar tx oc rl ou tl, q)) rfl ?_
      refine RQ.to (L' := [some (.ref 80), some (.int (iI b)), some (.int (iI r))]) (st' := [.long (lL r)]) rfl (by rw [iI_64 (by omega)]) ?_
      refine RQ.seg 5 (pc' := 27) (L' := [some (.ref 80), some (.int (iI b)), some (.int (iI r))]) (st' := [.int ((iI (sc 8007)) - (iI 1)), .long (lL 0), .long (lL r)]) (g1 := (HW (usc sc 8000 0) ar tx oc rl ou tl, q)) rfl ?_
      refine RQ.to (L' := [some (.ref 80), some (.int (iI b)), some (.int (iI r))]) (st' := [.int (iI (sc 8007 - 1)), .long (lL 0), .long (lL r)]) rfl (by simp only [iI_add, iI_sub, iI_mul, iI_neg]) ?_
      refine RQ.seg 1 (pc' := 28) (L' := [some (.ref 80), some (.int (iI b)), some (.int (iI r))]) (st' := [.long ((iI (sc 8007 - 1)).toInt64), .long (lL 0), .long (lL r)]) (g1 := (HW (usc sc 8000 0) ar tx oc rl ou tl, q)) rfl ?_
      refine RQ.to (L' := [some (.ref 80), some (.int (iI b)), some (.int (iI r))]) (st' := [.long (lL (sc 8007 - 1)), .long (lL 0), .long (lL r)]) rfl (by rw [iI_64 (by omega)]) ?_
      rcases Decidable.em (0 ≤ r ∧ r ≤ sc 8007 - 1) with h3 | h3
      · skip
        refine RQ.call rfl rfl (m_isIn_t (by omega) (by omega) (by omega) h3) ?_
        refine RQ.seg 5 (pc' := 42) (L' := [some (.ref 80), some (.int (iI b)), some (.int (iI r))]) (st' := [.int (iI r), .int (iI b), .ref 91]) (g1 := (HW (usc sc 8000 0) ar tx oc rl ou tl, q)) rfl ?_
        refine RQ.iast (z := b) (v := r) (g1 := (HW (usc sc 8000 0) (usc ar 91 (usz (ar 91) b r)) tx oc rl ou tl, q)) rfl rfl rfl rfl (by omega) (by decide) (HWa_91 rfl) ?_
        refine RQ.seg 1 (pc' := 44) (L' := [some (.ref 80), some (.int (iI b)), some (.int (iI r))]) (st' := [.int (iI 1)]) (g1 := (HW (usc sc 8000 0) (usc ar 91 (usz (ar 91) b r)) tx oc rl ou tl, q)) rfl ?_
        refine RQ.ret rfl rfl ?_
        first | exact ⟨rfl, rfl⟩ | (exfalso; omega)
      · skip
        refine RQ.call rfl rfl (m_isIn_f (by omega) (by omega) (by omega) h3) ?_
        refine RQ.seg 2 (pc' := 35) (L' := [some (.ref 80), some (.int (iI b)), some (.int (iI r))]) (st' := [.int (iI 0)]) (g1 := (HW (usc sc 8000 0) ar tx oc rl ou tl, q)) rfl ?_
        refine RQ.ret rfl rfl ?_
        first | exact ⟨rfl, rfl⟩ | (exfalso; omega)
  · skip
    refine RQ.call rfl rfl (m_isBr_f (by omega) hnb h1) ?_
    refine RQ.seg 2 (pc' := 35) (L' := [some (.ref 80), some (.int (iI b)), some (.int (iI r))]) (st' := [.int (iI 0)]) (g1 := (HW (usc sc 8000 0) ar tx oc rl ou tl, q)) rfl ?_
    refine RQ.ret rfl rfl ?_
    first | exact ⟨rfl, rfl⟩ | (exfalso; omega)
theorem m_rule_f {K : PK} {d : Nat} {sc : Nat → Int} {ar : Nat → Int → Int} {tx oc : Nat} {rl : Nat → Option Nat} {ou : Nat → Int64} {tl : List PO} {q : Nat × Nat} {b r : Int} (rb : -2147483648 ≤ b ∧ b < 2147483648) (rr : -2147483648 ≤ r ∧ r < 2147483648) (hnb : 0 ≤ sc 8025 ∧ sc 8025 ≤ 3) (hr : 0 ≤ sc 8007 ∧ sc 8007 ≤ 4) (hP : ¬ ((0 ≤ b ∧ b < sc 8025) ∧ -1 ≤ r ∧ r < sc 8007)) : CallR K (d + 2) 189 [.ref 80, .int (iI b), .int (iI r)] (HW sc ar tx oc rl ou tl, q) (some (.int (iI 0))) (HW (usc sc 8000 0) ar tx oc rl ou tl, q) := by
  apply CQ.x
  refine CQ.of (own := 11) (n := 3) (ini := false) (rt := (some .boolean)) (cd := cd189) (by decide +kernel) rfl (by decide +kernel) rfl (Nat.le_of_ble_eq_true rfl) ?_
  refine RQ.seg 5 (pc' := 7) (L' := [some (.ref 80), some (.int (iI b)), some (.int (iI r))]) (st' := [.int (iI b), .ref 80]) (g1 := (HW (usc sc 8000 0) ar tx oc rl ou tl, q)) rfl ?_
  rcases Decidable.em (0 ≤ b ∧ b < sc 8025) with h1 | h1
  · skip
    refine RQ.call rfl rfl (m_isBr_t (by omega) hnb h1) ?_
    refine RQ.seg 3 (pc' := 15) (L' := [some (.ref 80), some (.int (iI b)), some (.int (iI r))]) (st' := [.int (iI (-1)), .int (iI r)]) (g1 := (HW (usc sc 8000 0) ar tx oc rl ou tl, q)) rfl ?_
    refine RQ.if2 (a := r) (b := (-1)) rfl rfl rfl rfl (by omega) (by omega) (fun (h2 : r = (-1)) => ?_) (fun (h2 : ¬ r = (-1)) => ?_)
    · skip
      refine RQ.seg 4 (pc' := 42) (L' := [some (.ref 80), some (.int (iI b)), some (.int (iI r))]) (st' := [.int (iI r), .int (iI b), .ref 91]) (g1 := (HW (usc sc 8000 0) ar tx oc rl ou tl, q)) rfl ?_
      refine RQ.iast (z := b) (v := r) (g1 := (HW (usc sc 8000 0) (usc ar 91 (usz (ar 91) b r)) tx oc rl ou tl, q)) rfl rfl rfl rfl (by omega) (by decide) (HWa_91 rfl) ?_
      refine RQ.seg 1 (pc' := 44) (L' := [some (.ref 80), some (.int (iI b)), some (.int (iI r))]) (st' := [.int (iI 1)]) (g1 := (HW (usc sc 8000 0) (usc ar 91 (usz (ar 91) b r)) tx oc rl ou tl, q)) rfl ?_
      refine RQ.ret rfl rfl ?_
      first | exact ⟨rfl, rfl⟩ | (exfalso; omega)
    · skip
      refine RQ.seg 1 (pc' := 19) (L' := [some (.ref 80), some (.int (iI b)), some (.int (iI r))]) (st' := [.int (iI r)]) (g1 := (HW (usc sc 8000 0) ar tx oc rl ou tl, q)) rfl ?_
      refine RQ.seg 1 (pc' := 20) (L' := [some (.ref 80), some (.int (iI b)), some (.int (iI r))]) (st' := [.long ((iI r).toInt64)]) (g1 := (HW (usc sc 8000 0) ar tx oc rl ou tl, q)) rfl ?_
      refine RQ.to (L' := [some (.ref 80), some (.int (iI b)), some (.int (iI r))]) (st' := [.long (lL r)]) rfl (by rw [iI_64 (by omega)]) ?_
      refine RQ.seg 5 (pc' := 27) (L' := [some (.ref 80), some (.int (iI b)), some (.int (iI r))]) (st' := [.int ((iI (sc 8007)) - (iI 1)), .long (lL 0), .long (lL r)]) (g1 := (HW (usc sc 8000 0) ar tx oc rl ou tl, q)) rfl ?_
      refine RQ.to (L' := [some (.ref 80), some (.int (iI b)), some (.int (iI r))]) (st' := [.int (iI (sc 8007 - 1)), .long (lL 0), .long (lL r)]) rfl (by simp only [iI_add, iI_sub, iI_mul, iI_neg]) ?_
      refine RQ.seg 1 (pc' := 28) (L' := [some (.ref 80), some (.int (iI b)), some (.int (iI r))]) (st' := [.long ((iI (sc 8007 - 1)).toInt64), .long (lL 0), .long (lL r)]) (g1 := (HW (usc sc 8000 0) ar tx oc rl ou tl, q)) rfl ?_
      refine RQ.to (L' := [some (.ref 80), some (.int (iI b)), some (.int (iI r))]) (st' := [.long (lL (sc 8007 - 1)), .long (lL 0), .long (lL r)]) rfl (by rw [iI_64 (by omega)]) ?_
      rcases Decidable.em (0 ≤ r ∧ r ≤ sc 8007 - 1) with h3 | h3
      · skip
        refine RQ.call rfl rfl (m_isIn_t (by omega) (by omega) (by omega) h3) ?_
        refine RQ.seg 5 (pc' := 42) (L' := [some (.ref 80), some (.int (iI b)), some (.int (iI r))]) (st' := [.int (iI r), .int (iI b), .ref 91]) (g1 := (HW (usc sc 8000 0) ar tx oc rl ou tl, q)) rfl ?_
        refine RQ.iast (z := b) (v := r) (g1 := (HW (usc sc 8000 0) (usc ar 91 (usz (ar 91) b r)) tx oc rl ou tl, q)) rfl rfl rfl rfl (by omega) (by decide) (HWa_91 rfl) ?_
        refine RQ.seg 1 (pc' := 44) (L' := [some (.ref 80), some (.int (iI b)), some (.int (iI r))]) (st' := [.int (iI 1)]) (g1 := (HW (usc sc 8000 0) (usc ar 91 (usz (ar 91) b r)) tx oc rl ou tl, q)) rfl ?_
        refine RQ.ret rfl rfl ?_
        first | exact ⟨rfl, rfl⟩ | (exfalso; omega)
      · skip
        refine RQ.call rfl rfl (m_isIn_f (by omega) (by omega) (by omega) h3) ?_
        refine RQ.seg 2 (pc' := 35) (L' := [some (.ref 80), some (.int (iI b)), some (.int (iI r))]) (st' := [.int (iI 0)]) (g1 := (HW (usc sc 8000 0) ar tx oc rl ou tl, q)) rfl ?_
        refine RQ.ret rfl rfl ?_
        first | exact ⟨rfl, rfl⟩ | (exfalso; omega)
  · skip
    refine RQ.call rfl rfl (m_isBr_f (by omega) hnb h1) ?_
    refine RQ.seg 2 (pc' := 35) (L' := [some (.ref 80), some (.int (iI b)), some (.int (iI r))]) (st' := [.int (iI 0)]) (g1 := (HW (usc sc 8000 0) ar tx oc rl ou tl, q)) rfl ?_
    refine RQ.ret rfl rfl ?_
    first | exact ⟨rfl, rfl⟩ | (exfalso; omega)
theorem x_rule_t {K : PK} {d : Nat} {sc : Nat → Int} {ar : Nat → Int → Int} {tx oc : Nat} {rl : Nat → Option Nat} {ou : Nat → Int64} {tl : List PO} {q : Nat × Nat} {b r : Int} (rb : -2147483648 ≤ b ∧ b < 2147483648) (rr : -2147483648 ≤ r ∧ r < 2147483648) (hnb : 0 ≤ sc 304 ∧ sc 304 ≤ 3) (hr : 0 ≤ sc 5 ∧ sc 5 ≤ 4) (hP : (0 ≤ b ∧ b < sc 304) ∧ -1 ≤ r ∧ r < sc 5) : CallR K (d + 2) 113 [.ref 0, .int (iI b), .int (iI r)] (HW sc ar tx oc rl ou tl, q) (some (.int (iI 1))) (HW sc (usc ar 33 (usz (ar 33) b r)) tx oc rl ou tl, q) := by
  apply CQ.x
  refine CQ.of (own := 10) (n := 3) (ini := false) (rt := (some .boolean)) (cd := cd113) (by decide +kernel) rfl (by decide +kernel) rfl (Nat.le_of_ble_eq_true rfl) ?_
  refine RQ.seg 2 (pc' := 2) (L' := [some (.ref 0), some (.int (iI b)), some (.int (iI r))]) (st' := [.int (iI b), .ref 0]) (g1 := (HW sc ar tx oc rl ou tl, q)) rfl ?_
  rcases Decidable.em (0 ≤ b ∧ b < sc 304) with h1 | h1
  · skip
    refine RQ.call rfl rfl (x_isBr_t (by omega) hnb h1) ?_
    refine RQ.seg 3 (pc' := 10) (L' := [some (.ref 0), some (.int (iI b)), some (.int (iI r))]) (st' := [.int (iI (-1)), .int (iI r)]) (g1 := (HW sc ar tx oc rl ou tl, q)) rfl ?_
    refine RQ.if2 (a := r) (b := (-1)) rfl rfl rfl rfl (by omega) (by omega) (fun (h2 : r < (-1)) => ?_) (fun (h2 : ¬ r < (-1)) => ?_)
    · skip
      refine RQ.seg 1 (pc' := 22) (L' := [some (.ref 0), some (.int (iI b)), some (.int (iI r))]) (st' := [.int (iI 0)]) (g1 := (HW sc ar tx oc rl ou tl, q)) rfl ?_
      refine RQ.ret rfl rfl ?_
      first | exact ⟨rfl, rfl⟩ | (exfalso; omega)
    · skip
      refine RQ.seg 3 (pc' := 18) (L' := [some (.ref 0), some (.int (iI b)), some (.int (iI r))]) (st' := [.int (iI (sc 5)), .int (iI r)]) (g1 := (HW sc ar tx oc rl ou tl, q)) rfl ?_
      refine RQ.if2 (a := r) (b := (sc 5)) rfl rfl rfl rfl (by omega) (by omega) (fun (h3 : r < sc 5) => ?_) (fun (h3 : ¬ r < sc 5) => ?_)
      · skip
        refine RQ.seg 5 (pc' := 32) (L' := [some (.ref 0), some (.int (iI b)), some (.int (iI r))]) (st' := [.int (iI r), .int (iI b), .ref 33]) (g1 := (HW sc ar tx oc rl ou tl, q)) rfl ?_
        refine RQ.iast (z := b) (v := r) (g1 := (HW sc (usc ar 33 (usz (ar 33) b r)) tx oc rl ou tl, q)) rfl rfl rfl rfl (by omega) (by decide) (HWa_33 rfl) ?_
        refine RQ.seg 1 (pc' := 34) (L' := [some (.ref 0), some (.int (iI b)), some (.int (iI r))]) (st' := [.int (iI 1)]) (g1 := (HW sc (usc ar 33 (usz (ar 33) b r)) tx oc rl ou tl, q)) rfl ?_
        refine RQ.ret rfl rfl ?_
        first | exact ⟨rfl, rfl⟩ | (exfalso; omega)
      · skip
        refine RQ.seg 1 (pc' := 22) (L' := [some (.ref 0), some (.int (iI b)), some (.int (iI r))]) (st' := [.int (iI 0)]) (g1 := (HW sc ar tx oc rl ou tl, q)) rfl ?_
        refine RQ.ret rfl rfl ?_
        first | exact ⟨rfl, rfl⟩ | (exfalso; omega)
  · skip
    refine RQ.call rfl rfl (x_isBr_f (by omega) hnb h1) ?_
    refine RQ.seg 2 (pc' := 22) (L' := [some (.ref 0), some (.int (iI b)), some (.int (iI r))]) (st' := [.int (iI 0)]) (g1 := (HW sc ar tx oc rl ou tl, q)) rfl ?_
    refine RQ.ret rfl rfl ?_
    first | exact ⟨rfl, rfl⟩ | (exfalso; omega)
theorem x_rule_f {K : PK} {d : Nat} {sc : Nat → Int} {ar : Nat → Int → Int} {tx oc : Nat} {rl : Nat → Option Nat} {ou : Nat → Int64} {tl : List PO} {q : Nat × Nat} {b r : Int} (rb : -2147483648 ≤ b ∧ b < 2147483648) (rr : -2147483648 ≤ r ∧ r < 2147483648) (hnb : 0 ≤ sc 304 ∧ sc 304 ≤ 3) (hr : 0 ≤ sc 5 ∧ sc 5 ≤ 4) (hP : ¬ ((0 ≤ b ∧ b < sc 304) ∧ -1 ≤ r ∧ r < sc 5)) : CallR K (d + 2) 113 [.ref 0, .int (iI b), .int (iI r)] (HW sc ar tx oc rl ou tl, q) (some (.int (iI 0))) (HW sc ar tx oc rl ou tl, q) := by
  apply CQ.x
  refine CQ.of (own := 10) (n := 3) (ini := false) (rt := (some .boolean)) (cd := cd113) (by decide +kernel) rfl (by decide +kernel) rfl (Nat.le_of_ble_eq_true rfl) ?_
  refine RQ.seg 2 (pc' := 2) (L' := [some (.ref 0), some (.int (iI b)), some (.int (iI r))]) (st' := [.int (iI b), .ref 0]) (g1 := (HW sc ar tx oc rl ou tl, q)) rfl ?_
  rcases Decidable.em (0 ≤ b ∧ b < sc 304) with h1 | h1
  · skip
    refine RQ.call rfl rfl (x_isBr_t (by omega) hnb h1) ?_
    refine RQ.seg 3 (pc' := 10) (L' := [some (.ref 0), some (.int (iI b)), some (.int (iI r))]) (st' := [.int (iI (-1)), .int (iI r)]) (g1 := (HW sc ar tx oc rl ou tl, q)) rfl ?_
    refine RQ.if2 (a := r) (b := (-1)) rfl rfl rfl rfl (by omega) (by omega) (fun (h2 : r < (-1)) => ?_) (fun (h2 : ¬ r < (-1)) => ?_)
    · skip
      refine RQ.seg 1 (pc' := 22) (L' := [some (.ref 0), some (.int (iI b)), some (.int (iI r))]) (st' := [.int (iI 0)]) (g1 := (HW sc ar tx oc rl ou tl, q)) rfl ?_
      refine RQ.ret rfl rfl ?_
      first | exact ⟨rfl, rfl⟩ | (exfalso; omega)
    · skip
      refine RQ.seg 3 (pc' := 18) (L' := [some (.ref 0), some (.int (iI b)), some (.int (iI r))]) (st' := [.int (iI (sc 5)), .int (iI r)]) (g1 := (HW sc ar tx oc rl ou tl, q)) rfl ?_
      refine RQ.if2 (a := r) (b := (sc 5)) rfl rfl rfl rfl (by omega) (by omega) (fun (h3 : r < sc 5) => ?_) (fun (h3 : ¬ r < sc 5) => ?_)
      · skip
        refine RQ.seg 5 (pc' := 32) (L' := [some (.ref 0), some (.int (iI b)), some (.int (iI r))]) (st' := [.int (iI r), .int (iI b), .ref 33]) (g1 := (HW sc ar tx oc rl ou tl, q)) rfl ?_
        refine RQ.iast (z := b) (v := r) (g1 := (HW sc (usc ar 33 (usz (ar 33) b r)) tx oc rl ou tl, q)) rfl rfl rfl rfl (by omega) (by decide) (HWa_33 rfl) ?_
        refine RQ.seg 1 (pc' := 34) (L' := [some (.ref 0), some (.int (iI b)), some (.int (iI r))]) (st' := [.int (iI 1)]) (g1 := (HW sc (usc ar 33 (usz (ar 33) b r)) tx oc rl ou tl, q)) rfl ?_
        refine RQ.ret rfl rfl ?_
        first | exact ⟨rfl, rfl⟩ | (exfalso; omega)
      · skip
        refine RQ.seg 1 (pc' := 22) (L' := [some (.ref 0), some (.int (iI b)), some (.int (iI r))]) (st' := [.int (iI 0)]) (g1 := (HW sc ar tx oc rl ou tl, q)) rfl ?_
        refine RQ.ret rfl rfl ?_
        first | exact ⟨rfl, rfl⟩ | (exfalso; omega)
  · skip
    refine RQ.call rfl rfl (x_isBr_f (by omega) hnb h1) ?_
    refine RQ.seg 2 (pc' := 22) (L' := [some (.ref 0), some (.int (iI b)), some (.int (iI r))]) (st' := [.int (iI 0)]) (g1 := (HW sc ar tx oc rl ou tl, q)) rfl ?_
    refine RQ.ret rfl rfl ?_
    first | exact ⟨rfl, rfl⟩ | (exfalso; omega)
def lmo (j : Int) : Int := if j = 3 then 2 else 99
theorem m_mostL {K : PK} {d : Nat} {sc : Nat → Int} {ar : Nat → Int → Int} {tx oc : Nat} {rl : Nat → Option Nat} {ou : Nat → Int64} {tl : List PO} {q : Nat × Nat} {j : Int} (rj : -2147483648 ≤ j ∧ j < 2147483648) : CallR K (d + 1) 178 [.int (iI 108), .int (iI j)] (HW sc ar tx oc rl ou tl, q) (some (.int (iI (lmo j)))) (HW sc ar tx oc rl ou tl, q) := by
  apply CQ.x
  refine CQ.of (own := 11) (n := 2) (ini := false) (rt := (some .int)) (cd := cd178) (by decide +kernel) rfl (by decide +kernel) rfl (Nat.le_of_ble_eq_true rfl) ?_
  refine RQ.seg 8 (pc' := 56) (L' := [some (.int (iI 108)), some (.int (iI j))]) (st' := [.int (iI 3), .int (iI j)]) (g1 := (HW sc ar tx oc rl ou tl, q)) rfl ?_
  refine RQ.if2 (a := j) (b := 3) rfl rfl rfl rfl (by omega) (by omega) (fun (h1 : j ≠ 3) => ?_) (fun (h1 : ¬ j ≠ 3) => ?_)
  · skip
    refine RQ.seg 1 (pc' := 65) (L' := [some (.int (iI 108)), some (.int (iI j))]) (st' := [.int (iI 99)]) (g1 := (HW sc ar tx oc rl ou tl, q)) rfl ?_
    refine RQ.ret rfl rfl ?_
    refine ⟨?_, ?_⟩ <;> ((try unfold lmo); (repeat (first | rw [if_pos (by omega)] | rw [if_neg (by omega)])); (try rfl))
  · skip
    refine RQ.seg 2 (pc' := 65) (L' := [some (.int (iI 108)), some (.int (iI j))]) (st' := [.int (iI 2)]) (g1 := (HW sc ar tx oc rl ou tl, q)) rfl ?_
    refine RQ.ret rfl rfl ?_
    refine ⟨?_, ?_⟩ <;> ((try unfold lmo); (repeat (first | rw [if_pos (by omega)] | rw [if_neg (by omega)])); (try rfl))
theorem m_change_t {K : PK} {d : Nat} {sc : Nat → Int} {ar : Nat → Int → Int} {tx oc : Nat} {rl : Nat → Option Nat} {ou : Nat → Int64} {tl : List PO} {q : Nat × Nat} {j v : Int} (rj : -2147483648 ≤ j ∧ j < 2147483648) (rv : -2147483648 ≤ v ∧ v < 2147483648) (hnb : 0 ≤ sc 8025 ∧ sc 8025 ≤ 3) (hP : 0 < sc 8025 ∧ (0 ≤ j ∧ j ≤ 3) ∧ 0 ≤ v ∧ v ≤ lmo j) : CallR K (d + 2) 188 [.ref 80, .int (iI j), .int (iI v)] (HW sc ar tx oc rl ou tl, q) (some (.int (iI 1))) (HW (usc sc 8000 0) (usc ar 87 (usz (ar 87) j v)) tx oc rl ou tl, q) := by
  apply CQ.x
  refine CQ.of (own := 11) (n := 3) (ini := false) (rt := (some .boolean)) (cd := cd188) (by decide +kernel) rfl (by decide +kernel) rfl (Nat.le_of_ble_eq_true rfl) ?_
  refine RQ.seg 5 (pc' := 9) (L' := [some (.ref 80), some (.int (iI j)), some (.int (iI v))]) (st' := [.int (iI (sc 8025))]) (g1 := (HW (usc sc 8000 0) ar tx oc rl ou tl, q)) rfl ?_
  refine RQ.if1 (a := (sc 8025)) rfl rfl rfl (by omega) (fun (h1 : sc 8025 = 0) => ?_) (fun (h1 : ¬ sc 8025 = 0) => ?_)
  · skip
    refine RQ.seg 1 (pc' := 41) (L' := [some (.ref 80), some (.int (iI j)), some (.int (iI v))]) (st' := [.int (iI 0)]) (g1 := (HW (usc sc 8000 0) ar tx oc rl ou tl, q)) rfl ?_
    refine RQ.ret rfl rfl ?_
    first | exact ⟨rfl, rfl⟩ | (exfalso; omega)
  · skip
    refine RQ.seg 1 (pc' := 13) (L' := [some (.ref 80), some (.int (iI j)), some (.int (iI v))]) (st' := [.int (iI j)]) (g1 := (HW (usc sc 8000 0) ar tx oc rl ou tl, q)) rfl ?_
    refine RQ.seg 1 (pc' := 14) (L' := [some (.ref 80), some (.int (iI j)), some (.int (iI v))]) (st' := [.long ((iI j).toInt64)]) (g1 := (HW (usc sc 8000 0) ar tx oc rl ou tl, q)) rfl ?_
    refine RQ.to (L' := [some (.ref 80), some (.int (iI j)), some (.int (iI v))]) (st' := [.long (lL j)]) rfl (by rw [iI_64 (by omega)]) ?_
    refine RQ.seg 2 (pc' := 18) (L' := [some (.ref 80), some (.int (iI j)), some (.int (iI v))]) (st' := [.long (lL 3), .long (lL 0), .long (lL j)]) (g1 := (HW (usc sc 8000 0) ar tx oc rl ou tl, q)) rfl ?_
    rcases Decidable.em (0 ≤ j ∧ j ≤ 3) with h2 | h2
    · skip
      refine RQ.call rfl rfl (m_isIn_t (by omega) (by omega) (by omega) h2) ?_
      refine RQ.seg 2 (pc' := 25) (L' := [some (.ref 80), some (.int (iI j)), some (.int (iI v))]) (st' := [.int (iI v)]) (g1 := (HW (usc sc 8000 0) ar tx oc rl ou tl, q)) rfl ?_
      refine RQ.seg 1 (pc' := 26) (L' := [some (.ref 80), some (.int (iI j)), some (.int (iI v))]) (st' := [.long ((iI v).toInt64)]) (g1 := (HW (usc sc 8000 0) ar tx oc rl ou tl, q)) rfl ?_
      refine RQ.to (L' := [some (.ref 80), some (.int (iI j)), some (.int (iI v))]) (st' := [.long (lL v)]) rfl (by rw [iI_64 (by omega)]) ?_
      refine RQ.seg 3 (pc' := 30) (L' := [some (.ref 80), some (.int (iI j)), some (.int (iI v))]) (st' := [.int (iI j), .int (iI 108), .long (lL 0), .long (lL v)]) (g1 := (HW (usc sc 8000 0) ar tx oc rl ou tl, q)) rfl ?_
      have hlm : 0 ≤ lmo j ∧ lmo j ≤ 99 := by unfold lmo; split <;> omega
      refine RQ.call rfl rfl (m_mostL (by omega)) ?_
      refine RQ.seg 1 (pc' := 34) (L' := [some (.ref 80), some (.int (iI j)), some (.int (iI v))]) (st' := [.long ((iI (lmo j)).toInt64), .long (lL 0), .long (lL v)]) (g1 := (HW (usc sc 8000 0) ar tx oc rl ou tl, q)) rfl ?_
      refine RQ.to (L' := [some (.ref 80), some (.int (iI j)), some (.int (iI v))]) (st' := [.long (lL (lmo j)), .long (lL 0), .long (lL v)]) rfl (by rw [iI_64 (by omega)]) ?_
      rcases Decidable.em (0 ≤ v ∧ v ≤ lmo j) with h3 | h3
      · skip
        refine RQ.call rfl rfl (m_isIn_t (by omega) (by omega) (by omega) h3) ?_
        refine RQ.seg 5 (pc' := 48) (L' := [some (.ref 80), some (.int (iI j)), some (.int (iI v))]) (st' := [.int (iI v), .int (iI j), .ref 87]) (g1 := (HW (usc sc 8000 0) ar tx oc rl ou tl, q)) rfl ?_
        refine RQ.iast (z := j) (v := v) (g1 := (HW (usc sc 8000 0) (usc ar 87 (usz (ar 87) j v)) tx oc rl ou tl, q)) rfl rfl rfl rfl (by omega) (by decide) (HWa_87 rfl) ?_
        refine RQ.seg 1 (pc' := 50) (L' := [some (.ref 80), some (.int (iI j)), some (.int (iI v))]) (st' := [.int (iI 1)]) (g1 := (HW (usc sc 8000 0) (usc ar 87 (usz (ar 87) j v)) tx oc rl ou tl, q)) rfl ?_
        refine RQ.ret rfl rfl ?_
        first | exact ⟨rfl, rfl⟩ | (exfalso; omega)
      · skip
        refine RQ.call rfl rfl (m_isIn_f (by omega) (by omega) (by omega) h3) ?_
        refine RQ.seg 2 (pc' := 41) (L' := [some (.ref 80), some (.int (iI j)), some (.int (iI v))]) (st' := [.int (iI 0)]) (g1 := (HW (usc sc 8000 0) ar tx oc rl ou tl, q)) rfl ?_
        refine RQ.ret rfl rfl ?_
        first | exact ⟨rfl, rfl⟩ | (exfalso; omega)
    · skip
      refine RQ.call rfl rfl (m_isIn_f (by omega) (by omega) (by omega) h2) ?_
      refine RQ.seg 2 (pc' := 41) (L' := [some (.ref 80), some (.int (iI j)), some (.int (iI v))]) (st' := [.int (iI 0)]) (g1 := (HW (usc sc 8000 0) ar tx oc rl ou tl, q)) rfl ?_
      refine RQ.ret rfl rfl ?_
      first | exact ⟨rfl, rfl⟩ | (exfalso; omega)
theorem m_change_f {K : PK} {d : Nat} {sc : Nat → Int} {ar : Nat → Int → Int} {tx oc : Nat} {rl : Nat → Option Nat} {ou : Nat → Int64} {tl : List PO} {q : Nat × Nat} {j v : Int} (rj : -2147483648 ≤ j ∧ j < 2147483648) (rv : -2147483648 ≤ v ∧ v < 2147483648) (hnb : 0 ≤ sc 8025 ∧ sc 8025 ≤ 3) (hP : ¬ (0 < sc 8025 ∧ (0 ≤ j ∧ j ≤ 3) ∧ 0 ≤ v ∧ v ≤ lmo j)) : CallR K (d + 2) 188 [.ref 80, .int (iI j), .int (iI v)] (HW sc ar tx oc rl ou tl, q) (some (.int (iI 0))) (HW (usc sc 8000 0) ar tx oc rl ou tl, q) := by
  apply CQ.x
  refine CQ.of (own := 11) (n := 3) (ini := false) (rt := (some .boolean)) (cd := cd188) (by decide +kernel) rfl (by decide +kernel) rfl (Nat.le_of_ble_eq_true rfl) ?_
  refine RQ.seg 5 (pc' := 9) (L' := [some (.ref 80), some (.int (iI j)), some (.int (iI v))]) (st' := [.int (iI (sc 8025))]) (g1 := (HW (usc sc 8000 0) ar tx oc rl ou tl, q)) rfl ?_
  refine RQ.if1 (a := (sc 8025)) rfl rfl rfl (by omega) (fun (h1 : sc 8025 = 0) => ?_) (fun (h1 : ¬ sc 8025 = 0) => ?_)
  · skip
    refine RQ.seg 1 (pc' := 41) (L' := [some (.ref 80), some (.int (iI j)), some (.int (iI v))]) (st' := [.int (iI 0)]) (g1 := (HW (usc sc 8000 0) ar tx oc rl ou tl, q)) rfl ?_
    refine RQ.ret rfl rfl ?_
    first | exact ⟨rfl, rfl⟩ | (exfalso; omega)
  · skip
    refine RQ.seg 1 (pc' := 13) (L' := [some (.ref 80), some (.int (iI j)), some (.int (iI v))]) (st' := [.int (iI j)]) (g1 := (HW (usc sc 8000 0) ar tx oc rl ou tl, q)) rfl ?_
    refine RQ.seg 1 (pc' := 14) (L' := [some (.ref 80), some (.int (iI j)), some (.int (iI v))]) (st' := [.long ((iI j).toInt64)]) (g1 := (HW (usc sc 8000 0) ar tx oc rl ou tl, q)) rfl ?_
    refine RQ.to (L' := [some (.ref 80), some (.int (iI j)), some (.int (iI v))]) (st' := [.long (lL j)]) rfl (by rw [iI_64 (by omega)]) ?_
    refine RQ.seg 2 (pc' := 18) (L' := [some (.ref 80), some (.int (iI j)), some (.int (iI v))]) (st' := [.long (lL 3), .long (lL 0), .long (lL j)]) (g1 := (HW (usc sc 8000 0) ar tx oc rl ou tl, q)) rfl ?_
    rcases Decidable.em (0 ≤ j ∧ j ≤ 3) with h2 | h2
    · skip
      refine RQ.call rfl rfl (m_isIn_t (by omega) (by omega) (by omega) h2) ?_
      refine RQ.seg 2 (pc' := 25) (L' := [some (.ref 80), some (.int (iI j)), some (.int (iI v))]) (st' := [.int (iI v)]) (g1 := (HW (usc sc 8000 0) ar tx oc rl ou tl, q)) rfl ?_
      refine RQ.seg 1 (pc' := 26) (L' := [some (.ref 80), some (.int (iI j)), some (.int (iI v))]) (st' := [.long ((iI v).toInt64)]) (g1 := (HW (usc sc 8000 0) ar tx oc rl ou tl, q)) rfl ?_
      refine RQ.to (L' := [some (.ref 80), some (.int (iI j)), some (.int (iI v))]) (st' := [.long (lL v)]) rfl (by rw [iI_64 (by omega)]) ?_
      refine RQ.seg 3 (pc' := 30) (L' := [some (.ref 80), some (.int (iI j)), some (.int (iI v))]) (st' := [.int (iI j), .int (iI 108), .long (lL 0), .long (lL v)]) (g1 := (HW (usc sc 8000 0) ar tx oc rl ou tl, q)) rfl ?_
      have hlm : 0 ≤ lmo j ∧ lmo j ≤ 99 := by unfold lmo; split <;> omega
      refine RQ.call rfl rfl (m_mostL (by omega)) ?_
      refine RQ.seg 1 (pc' := 34) (L' := [some (.ref 80), some (.int (iI j)), some (.int (iI v))]) (st' := [.long ((iI (lmo j)).toInt64), .long (lL 0), .long (lL v)]) (g1 := (HW (usc sc 8000 0) ar tx oc rl ou tl, q)) rfl ?_
      refine RQ.to (L' := [some (.ref 80), some (.int (iI j)), some (.int (iI v))]) (st' := [.long (lL (lmo j)), .long (lL 0), .long (lL v)]) rfl (by rw [iI_64 (by omega)]) ?_
      rcases Decidable.em (0 ≤ v ∧ v ≤ lmo j) with h3 | h3
      · skip
        refine RQ.call rfl rfl (m_isIn_t (by omega) (by omega) (by omega) h3) ?_
        refine RQ.seg 5 (pc' := 48) (L' := [some (.ref 80), some (.int (iI j)), some (.int (iI v))]) (st' := [.int (iI v), .int (iI j), .ref 87]) (g1 := (HW (usc sc 8000 0) ar tx oc rl ou tl, q)) rfl ?_
        refine RQ.iast (z := j) (v := v) (g1 := (HW (usc sc 8000 0) (usc ar 87 (usz (ar 87) j v)) tx oc rl ou tl, q)) rfl rfl rfl rfl (by omega) (by decide) (HWa_87 rfl) ?_
        refine RQ.seg 1 (pc' := 50) (L' := [some (.ref 80), some (.int (iI j)), some (.int (iI v))]) (st' := [.int (iI 1)]) (g1 := (HW (usc sc 8000 0) (usc ar 87 (usz (ar 87) j v)) tx oc rl ou tl, q)) rfl ?_
        refine RQ.ret rfl rfl ?_
        first | exact ⟨rfl, rfl⟩ | (exfalso; omega)
      · skip
        refine RQ.call rfl rfl (m_isIn_f (by omega) (by omega) (by omega) h3) ?_
        refine RQ.seg 2 (pc' := 41) (L' := [some (.ref 80), some (.int (iI j)), some (.int (iI v))]) (st' := [.int (iI 0)]) (g1 := (HW (usc sc 8000 0) ar tx oc rl ou tl, q)) rfl ?_
        refine RQ.ret rfl rfl ?_
        first | exact ⟨rfl, rfl⟩ | (exfalso; omega)
    · skip
      refine RQ.call rfl rfl (m_isIn_f (by omega) (by omega) (by omega) h2) ?_
      refine RQ.seg 2 (pc' := 41) (L' := [some (.ref 80), some (.int (iI j)), some (.int (iI v))]) (st' := [.int (iI 0)]) (g1 := (HW (usc sc 8000 0) ar tx oc rl ou tl, q)) rfl ?_
      refine RQ.ret rfl rfl ?_
      first | exact ⟨rfl, rfl⟩ | (exfalso; omega)
theorem x_rforget {K : PK} {d : Nat} {sc : Nat → Int} {ar : Nat → Int → Int} {tx oc : Nat} {rl : Nat → Option Nat} {ou : Nat → Int64} {tl : List PO} {q : Nat × Nat}  : CallR K (d + 1) 60 [.ref 72] (HW sc ar tx oc rl ou tl, q) none (HW (usc (usc (usc sc 7205 0) 7206 0) 7207 0) ar tx oc rl ou tl, q) := by
  apply CQ.x
  refine CQ.of (own := 5) (n := 1) (ini := false) (rt := none) (cd := cd60) (by decide +kernel) rfl (by decide +kernel) rfl (Nat.le_of_ble_eq_true rfl) ?_
  refine RQ.seg 9 (pc' := 15) (L' := [some (.ref 72)]) (st' := []) (g1 := (HW (usc (usc (usc sc 7205 0) 7206 0) 7207 0) ar tx oc rl ou tl, q)) rfl ?_
  refine RQ.ret rfl rfl ?_
  refine ⟨?_, ?_⟩ <;> ((repeat (first | rw [if_pos (by omega)] | rw [if_neg (by omega)])); (try rfl))
theorem x_change_t {K : PK} {d : Nat} {sc : Nat → Int} {ar : Nat → Int → Int} {tx oc : Nat} {rl : Nat → Option Nat} {ou : Nat → Int64} {tl : List PO} {q : Nat × Nat} {j v : Int} (hK11 : K 11 = some (4, zA kc11)) (hK12 : K 12 = some (4, zA kc12)) (rj : -2147483648 ≤ j ∧ j < 2147483648) (rv : -2147483648 ≤ v ∧ v < 2147483648) (hnb : 0 ≤ sc 304 ∧ sc 304 ≤ 3) (hP : 0 < sc 304 ∧ (0 ≤ j ∧ j ≤ 3) ∧ 0 ≤ v ∧ v ≤ lmo j) : CallR K (d + 2) 112 [.ref 0, .int (iI j), .int (iI v)] (HW sc ar tx oc rl ou tl, q) (some (.int (iI 1))) (HW (usc (usc (usc sc 7205 0) 7206 0) 7207 0) (usc ar 32 (usz (ar 32) j v)) tx oc rl ou tl, q) := by
  apply CQ.x
  have e11 : kc11 j = 0 := by unfold kc11; simp
  have e12 : (0 ≤ j ∧ j ≤ 3) → kc12 j = lmo j := by intro hj; rcases (show j = 0 ∨ j = 1 ∨ j = 2 ∨ j = 3 by omega) with rfl | rfl | rfl | rfl <;> rfl
  have hlm : 0 ≤ lmo j ∧ lmo j ≤ 99 := by unfold lmo; split <;> omega
  have e13 : 0 ≤ kc12 j ∧ kc12 j ≤ 99 := by unfold kc12; (repeat split) <;> omega
  refine CQ.of (own := 10) (n := 3) (ini := false) (rt := (some .boolean)) (cd := cd112) (by decide +kernel) rfl (by decide +kernel) rfl (Nat.le_of_ble_eq_true rfl) ?_
  refine RQ.seg 2 (pc' := 4) (L' := [some (.ref 0), some (.int (iI j)), some (.int (iI v))]) (st' := [.ref 3]) (g1 := (HW sc ar tx oc rl ou tl, q)) rfl ?_
  rcases Decidable.em (0 < sc 304) with h1 | h1
  · skip
    refine RQ.call rfl rfl (x_stands_t hnb h1) ?_
    refine RQ.seg 2 (pc' := 11) (L' := [some (.ref 0), some (.int (iI j)), some (.int (iI v))]) (st' := [.int (iI j)]) (g1 := (HW sc ar tx oc rl ou tl, q)) rfl ?_
    refine RQ.if1 (a := j) rfl rfl rfl (by omega) (fun (h2 : j < 0) => ?_) (fun (h2 : ¬ j < 0) => ?_)
    · skip
      refine RQ.seg 1 (pc' := 20) (L' := [some (.ref 0), some (.int (iI j)), some (.int (iI v))]) (st' := [.int (iI 0)]) (g1 := (HW sc ar tx oc rl ou tl, q)) rfl ?_
      refine RQ.ret rfl rfl ?_
      first | exact ⟨rfl, rfl⟩ | (exfalso; omega)
    · skip
      refine RQ.seg 2 (pc' := 16) (L' := [some (.ref 0), some (.int (iI j)), some (.int (iI v))]) (st' := [.int (iI 3), .int (iI j)]) (g1 := (HW sc ar tx oc rl ou tl, q)) rfl ?_
      refine RQ.if2 (a := j) (b := 3) rfl rfl rfl rfl (by omega) (by omega) (fun (h3 : j ≤ 3) => ?_) (fun (h3 : ¬ j ≤ 3) => ?_)
      · skip
        refine RQ.seg 3 (pc' := 26) (L' := [some (.ref 0), some (.int (iI j)), some (.int (iI v))]) (st' := [.int (iI j), .retAddr 11, .int (iI v)]) (g1 := (HW sc ar tx oc rl ou tl, q)) rfl ?_
        refine RQ.kald (z := j) rfl rfl hK11 (by omega) (by decide) ?_
        refine RQ.if2 (a := v) (b := (kc11 j)) rfl rfl rfl rfl (by omega) (by omega) (fun (h4 : v < kc11 j) => ?_) (fun (h4 : ¬ v < kc11 j) => ?_)
        · skip
          refine RQ.seg 1 (pc' := 40) (L' := [some (.ref 0), some (.int (iI j)), some (.int (iI v))]) (st' := [.int (iI 0)]) (g1 := (HW sc ar tx oc rl ou tl, q)) rfl ?_
          refine RQ.ret rfl rfl ?_
          first | exact ⟨rfl, rfl⟩ | (exfalso; omega)
        · skip
          refine RQ.seg 3 (pc' := 35) (L' := [some (.ref 0), some (.int (iI j)), some (.int (iI v))]) (st' := [.int (iI j), .retAddr 12, .int (iI v)]) (g1 := (HW sc ar tx oc rl ou tl, q)) rfl ?_
          refine RQ.kald (z := j) rfl rfl hK12 (by omega) (by decide) ?_
          refine RQ.if2 (a := v) (b := (kc12 j)) rfl rfl rfl rfl (by omega) (by omega) (fun (h5 : v ≤ kc12 j) => ?_) (fun (h5 : ¬ v ≤ kc12 j) => ?_)
          · skip
            refine RQ.seg 5 (pc' := 50) (L' := [some (.ref 0), some (.int (iI j)), some (.int (iI v))]) (st' := [.int (iI v), .int (iI j), .ref 32]) (g1 := (HW sc ar tx oc rl ou tl, q)) rfl ?_
            refine RQ.iast (z := j) (v := v) (g1 := (HW sc (usc ar 32 (usz (ar 32) j v)) tx oc rl ou tl, q)) rfl rfl rfl rfl (by omega) (by decide) (HWa_32 rfl) ?_
            refine RQ.seg 2 (pc' := 55) (L' := [some (.ref 0), some (.int (iI j)), some (.int (iI v))]) (st' := [.ref 72]) (g1 := (HW sc (usc ar 32 (usz (ar 32) j v)) tx oc rl ou tl, q)) rfl ?_
            refine RQ.call rfl rfl x_rforget ?_
            refine RQ.seg 1 (pc' := 59) (L' := [some (.ref 0), some (.int (iI j)), some (.int (iI v))]) (st' := [.int (iI 1)]) (g1 := (HW (usc (usc (usc sc 7205 0) 7206 0) 7207 0) (usc ar 32 (usz (ar 32) j v)) tx oc rl ou tl, q)) rfl ?_
            refine RQ.ret rfl rfl ?_
            first | exact ⟨rfl, rfl⟩ | (exfalso; omega)
          · skip
            refine RQ.seg 1 (pc' := 40) (L' := [some (.ref 0), some (.int (iI j)), some (.int (iI v))]) (st' := [.int (iI 0)]) (g1 := (HW sc ar tx oc rl ou tl, q)) rfl ?_
            refine RQ.ret rfl rfl ?_
            first | exact ⟨rfl, rfl⟩ | (exfalso; omega)
      · skip
        refine RQ.seg 1 (pc' := 20) (L' := [some (.ref 0), some (.int (iI j)), some (.int (iI v))]) (st' := [.int (iI 0)]) (g1 := (HW sc ar tx oc rl ou tl, q)) rfl ?_
        refine RQ.ret rfl rfl ?_
        first | exact ⟨rfl, rfl⟩ | (exfalso; omega)
  · skip
    refine RQ.call rfl rfl (x_stands_f hnb h1) ?_
    refine RQ.seg 2 (pc' := 20) (L' := [some (.ref 0), some (.int (iI j)), some (.int (iI v))]) (st' := [.int (iI 0)]) (g1 := (HW sc ar tx oc rl ou tl, q)) rfl ?_
    refine RQ.ret rfl rfl ?_
    first | exact ⟨rfl, rfl⟩ | (exfalso; omega)
theorem x_change_f {K : PK} {d : Nat} {sc : Nat → Int} {ar : Nat → Int → Int} {tx oc : Nat} {rl : Nat → Option Nat} {ou : Nat → Int64} {tl : List PO} {q : Nat × Nat} {j v : Int} (hK11 : K 11 = some (4, zA kc11)) (hK12 : K 12 = some (4, zA kc12)) (rj : -2147483648 ≤ j ∧ j < 2147483648) (rv : -2147483648 ≤ v ∧ v < 2147483648) (hnb : 0 ≤ sc 304 ∧ sc 304 ≤ 3) (hP : ¬ (0 < sc 304 ∧ (0 ≤ j ∧ j ≤ 3) ∧ 0 ≤ v ∧ v ≤ lmo j)) : CallR K (d + 2) 112 [.ref 0, .int (iI j), .int (iI v)] (HW sc ar tx oc rl ou tl, q) (some (.int (iI 0))) (HW sc ar tx oc rl ou tl, q) := by
  apply CQ.x
  have e11 : kc11 j = 0 := by unfold kc11; simp
  have e12 : (0 ≤ j ∧ j ≤ 3) → kc12 j = lmo j := by intro hj; rcases (show j = 0 ∨ j = 1 ∨ j = 2 ∨ j = 3 by omega) with rfl | rfl | rfl | rfl <;> rfl
  have hlm : 0 ≤ lmo j ∧ lmo j ≤ 99 := by unfold lmo; split <;> omega
  have e13 : 0 ≤ kc12 j ∧ kc12 j ≤ 99 := by unfold kc12; (repeat split) <;> omega
  refine CQ.of (own := 10) (n := 3) (ini := false) (rt := (some .boolean)) (cd := cd112) (by decide +kernel) rfl (by decide +kernel) rfl (Nat.le_of_ble_eq_true rfl) ?_
  refine RQ.seg 2 (pc' := 4) (L' := [some (.ref 0), some (.int (iI j)), some (.int (iI v))]) (st' := [.ref 3]) (g1 := (HW sc ar tx oc rl ou tl, q)) rfl ?_
  rcases Decidable.em (0 < sc 304) with h1 | h1
  · skip
    refine RQ.call rfl rfl (x_stands_t hnb h1) ?_
    refine RQ.seg 2 (pc' := 11) (L' := [some (.ref 0), some (.int (iI j)), some (.int (iI v))]) (st' := [.int (iI j)]) (g1 := (HW sc ar tx oc rl ou tl, q)) rfl ?_
    refine RQ.if1 (a := j) rfl rfl rfl (by omega) (fun (h2 : j < 0) => ?_) (fun (h2 : ¬ j < 0) => ?_)
    · skip
      refine RQ.seg 1 (pc' := 20) (L' := [some (.ref 0), some (.int (iI j)), some (.int (iI v))]) (st' := [.int (iI 0)]) (g1 := (HW sc ar tx oc rl ou tl, q)) rfl ?_
      refine RQ.ret rfl rfl ?_
      first | exact ⟨rfl, rfl⟩ | (exfalso; omega)
    · skip
      refine RQ.seg 2 (pc' := 16) (L' := [some (.ref 0), some (.int (iI j)), some (.int (iI v))]) (st' := [.int (iI 3), .int (iI j)]) (g1 := (HW sc ar tx oc rl ou tl, q)) rfl ?_
      refine RQ.if2 (a := j) (b := 3) rfl rfl rfl rfl (by omega) (by omega) (fun (h3 : j ≤ 3) => ?_) (fun (h3 : ¬ j ≤ 3) => ?_)
      · skip
        refine RQ.seg 3 (pc' := 26) (L' := [some (.ref 0), some (.int (iI j)), some (.int (iI v))]) (st' := [.int (iI j), .retAddr 11, .int (iI v)]) (g1 := (HW sc ar tx oc rl ou tl, q)) rfl ?_
        refine RQ.kald (z := j) rfl rfl hK11 (by omega) (by decide) ?_
        refine RQ.if2 (a := v) (b := (kc11 j)) rfl rfl rfl rfl (by omega) (by omega) (fun (h4 : v < kc11 j) => ?_) (fun (h4 : ¬ v < kc11 j) => ?_)
        · skip
          refine RQ.seg 1 (pc' := 40) (L' := [some (.ref 0), some (.int (iI j)), some (.int (iI v))]) (st' := [.int (iI 0)]) (g1 := (HW sc ar tx oc rl ou tl, q)) rfl ?_
          refine RQ.ret rfl rfl ?_
          first | exact ⟨rfl, rfl⟩ | (exfalso; omega)
        · skip
          refine RQ.seg 3 (pc' := 35) (L' := [some (.ref 0), some (.int (iI j)), some (.int (iI v))]) (st' := [.int (iI j), .retAddr 12, .int (iI v)]) (g1 := (HW sc ar tx oc rl ou tl, q)) rfl ?_
          refine RQ.kald (z := j) rfl rfl hK12 (by omega) (by decide) ?_
          refine RQ.if2 (a := v) (b := (kc12 j)) rfl rfl rfl rfl (by omega) (by omega) (fun (h5 : v ≤ kc12 j) => ?_) (fun (h5 : ¬ v ≤ kc12 j) => ?_)
          · skip
            refine RQ.seg 5 (pc' := 50) (L' := [some (.ref 0), some (.int (iI j)), some (.int (iI v))]) (st' := [.int (iI v), .int (iI j), .ref 32]) (g1 := (HW sc ar tx oc rl ou tl, q)) rfl ?_
            refine RQ.iast (z := j) (v := v) (g1 := (HW sc (usc ar 32 (usz (ar 32) j v)) tx oc rl ou tl, q)) rfl rfl rfl rfl (by omega) (by decide) (HWa_32 rfl) ?_
            refine RQ.seg 2 (pc' := 55) (L' := [some (.ref 0), some (.int (iI j)), some (.int (iI v))]) (st' := [.ref 72]) (g1 := (HW sc (usc ar 32 (usz (ar 32) j v)) tx oc rl ou tl, q)) rfl ?_
            refine RQ.call rfl rfl x_rforget ?_
            refine RQ.seg 1 (pc' := 59) (L' := [some (.ref 0), some (.int (iI j)), some (.int (iI v))]) (st' := [.int (iI 1)]) (g1 := (HW (usc (usc (usc sc 7205 0) 7206 0) 7207 0) (usc ar 32 (usz (ar 32) j v)) tx oc rl ou tl, q)) rfl ?_
            refine RQ.ret rfl rfl ?_
            first | exact ⟨rfl, rfl⟩ | (exfalso; omega)
          · skip
            refine RQ.seg 1 (pc' := 40) (L' := [some (.ref 0), some (.int (iI j)), some (.int (iI v))]) (st' := [.int (iI 0)]) (g1 := (HW sc ar tx oc rl ou tl, q)) rfl ?_
            refine RQ.ret rfl rfl ?_
            first | exact ⟨rfl, rfl⟩ | (exfalso; omega)
      · skip
        refine RQ.seg 1 (pc' := 20) (L' := [some (.ref 0), some (.int (iI j)), some (.int (iI v))]) (st' := [.int (iI 0)]) (g1 := (HW sc ar tx oc rl ou tl, q)) rfl ?_
        refine RQ.ret rfl rfl ?_
        first | exact ⟨rfl, rfl⟩ | (exfalso; omega)
  · skip
    refine RQ.call rfl rfl (x_stands_f hnb h1) ?_
    refine RQ.seg 2 (pc' := 20) (L' := [some (.ref 0), some (.int (iI j)), some (.int (iI v))]) (st' := [.int (iI 0)]) (g1 := (HW sc ar tx oc rl ou tl, q)) rfl ?_
    refine RQ.ret rfl rfl ?_
    first | exact ⟨rfl, rfl⟩ | (exfalso; omega)
def sBrig (f : Int → Int → Int) (r s g : Int → Int) (b j : Int) : Int := if j < 3 then f b j else if j = 3 then r b else if j = 4 then s b else g b
theorem m_brig_t {K : PK} {d : Nat} {sc : Nat → Int} {ar : Nat → Int → Int} {tx oc : Nat} {rl : Nat → Option Nat} {ou : Nat → Int64} {tl : List PO} {q : Nat × Nat} {b j : Int} (rb : -2147483648 ≤ b ∧ b < 2147483648) (rj : -2147483648 ≤ j ∧ j < 2147483648) (hnb : 0 ≤ sc 8025 ∧ sc 8025 ≤ 3) (hP : (0 ≤ b ∧ b < sc 8025) ∧ 0 ≤ j ∧ j ≤ 5) : CallR K (d + 2) 185 [.ref 80, .int (iI b), .int (iI j)] (HW sc ar tx oc rl ou tl, q) (some (.int (iI (sBrig (fun b j => ar 86 (3 * b + j)) (ar 91) (ar 92) (ar 93) b j)))) (HW (usc sc 8000 0) ar tx oc rl ou tl, q) := by
  apply CQ.x
  refine CQ.of (own := 11) (n := 3) (ini := false) (rt := (some .int)) (cd := cd185) (by decide +kernel) rfl (by decide +kernel) rfl (Nat.le_of_ble_eq_true rfl) ?_
  refine RQ.seg 3 (pc' := 3) (L' := [some (.ref 80), some (.int (iI b)), some (.int (iI j))]) (st' := [.int (iI b), .ref 80, .ref 80]) (g1 := (HW sc ar tx oc rl ou tl, q)) rfl ?_
  rcases Decidable.em (0 ≤ b ∧ b < sc 8025) with h1 | h1
  · skip
    refine RQ.call rfl rfl (m_isBr_t (by omega) hnb h1) ?_
    refine RQ.seg 2 (pc' := 10) (L' := [some (.ref 80), some (.int (iI b)), some (.int (iI j))]) (st' := [.int (iI j), .ref 80]) (g1 := (HW sc ar tx oc rl ou tl, q)) rfl ?_
    refine RQ.seg 1 (pc' := 11) (L' := [some (.ref 80), some (.int (iI b)), some (.int (iI j))]) (st' := [.long ((iI j).toInt64), .ref 80]) (g1 := (HW sc ar tx oc rl ou tl, q)) rfl ?_
    refine RQ.to (L' := [some (.ref 80), some (.int (iI b)), some (.int (iI j))]) (st' := [.long (lL j), .ref 80]) rfl (by rw [iI_64 (by omega)]) ?_
    refine RQ.seg 2 (pc' := 15) (L' := [some (.ref 80), some (.int (iI b)), some (.int (iI j))]) (st' := [.long (lL 5), .long (lL 0), .long (lL j), .ref 80]) (g1 := (HW sc ar tx oc rl ou tl, q)) rfl ?_
    rcases Decidable.em (0 ≤ j ∧ j ≤ 5) with h2 | h2
    · skip
      refine RQ.call rfl rfl (m_isIn_t (by omega) (by omega) (by omega) h2) ?_
      refine RQ.seg 9 (pc' := 40) (L' := [some (.ref 80), some (.int (iI b)), some (.int (iI j))]) (st' := [.int (iI 3), .int (iI j)]) (g1 := (HW (usc sc 8000 0) ar tx oc rl ou tl, q)) rfl ?_
      refine RQ.if2 (a := j) (b := 3) rfl rfl rfl rfl (by omega) (by omega) (fun (h3 : 3 ≤ j) => ?_) (fun (h3 : ¬ 3 ≤ j) => ?_)
      · skip
        refine RQ.seg 2 (pc' := 58) (L' := [some (.ref 80), some (.int (iI b)), some (.int (iI j))]) (st' := [.int (iI 3), .int (iI j)]) (g1 := (HW (usc sc 8000 0) ar tx oc rl ou tl, q)) rfl ?_
        refine RQ.if2 (a := j) (b := 3) rfl rfl rfl rfl (by omega) (by omega) (fun (h4 : j ≠ 3) => ?_) (fun (h4 : ¬ j ≠ 3) => ?_)
        · skip
          refine RQ.seg 2 (pc' := 72) (L' := [some (.ref 80), some (.int (iI b)), some (.int (iI j))]) (st' := [.int (iI 4), .int (iI j)]) (g1 := (HW (usc sc 8000 0) ar tx oc rl ou tl, q)) rfl ?_
          refine RQ.if2 (a := j) (b := 4) rfl rfl rfl rfl (by omega) (by omega) (fun (h5 : j ≠ 4) => ?_) (fun (h5 : ¬ j ≠ 4) => ?_)
          · skip
            refine RQ.seg 3 (pc' := 89) (L' := [some (.ref 80), some (.int (iI b)), some (.int (iI j))]) (st' := [.int (iI b), .ref 93]) (g1 := (HW (usc sc 8000 0) ar tx oc rl ou tl, q)) rfl ?_
            refine RQ.iald (z := b) rfl rfl rfl (by omega) (by decide) ?_
            refine RQ.ret rfl rfl ?_
            first | (exfalso; omega) | (refine ⟨?_, ?_⟩ <;> ((try unfold sBrig); (repeat (first | rw [if_pos (by omega)] | rw [if_neg (by omega)])); (try rfl)))
          · skip
            refine RQ.seg 3 (pc' := 80) (L' := [some (.ref 80), some (.int (iI b)), some (.int (iI j))]) (st' := [.int (iI b), .ref 92]) (g1 := (HW (usc sc 8000 0) ar tx oc rl ou tl, q)) rfl ?_
            refine RQ.iald (z := b) rfl rfl rfl (by omega) (by decide) ?_
            refine RQ.seg 1 (pc' := 90) (L' := [some (.ref 80), some (.int (iI b)), some (.int (iI j))]) (st' := [.int (iI ((ar 92) b))]) (g1 := (HW (usc sc 8000 0) ar tx oc rl ou tl, q)) rfl ?_
            refine RQ.ret rfl rfl ?_
            first | (exfalso; omega) | (refine ⟨?_, ?_⟩ <;> ((try unfold sBrig); (repeat (first | rw [if_pos (by omega)] | rw [if_neg (by omega)])); (try rfl)))
        · skip
          refine RQ.seg 3 (pc' := 66) (L' := [some (.ref 80), some (.int (iI b)), some (.int (iI j))]) (st' := [.int (iI b), .ref 91]) (g1 := (HW (usc sc 8000 0) ar tx oc rl ou tl, q)) rfl ?_
          refine RQ.iald (z := b) rfl rfl rfl (by omega) (by decide) ?_
          refine RQ.seg 1 (pc' := 90) (L' := [some (.ref 80), some (.int (iI b)), some (.int (iI j))]) (st' := [.int (iI ((ar 91) b))]) (g1 := (HW (usc sc 8000 0) ar tx oc rl ou tl, q)) rfl ?_
          refine RQ.ret rfl rfl ?_
          first | (exfalso; omega) | (refine ⟨?_, ?_⟩ <;> ((try unfold sBrig); (repeat (first | rw [if_pos (by omega)] | rw [if_neg (by omega)])); (try rfl)))
      · skip
        refine RQ.seg 7 (pc' := 52) (L' := [some (.ref 80), some (.int (iI b)), some (.int (iI j))]) (st' := [.int (((iI 3) * (iI b)) + (iI j)), .ref 86]) (g1 := (HW (usc sc 8000 0) ar tx oc rl ou tl, q)) rfl ?_
        refine RQ.iald (z := (3 * b + j)) rfl (by simp only [iI_add, iI_sub, iI_mul, iI_neg]) rfl (by omega) (by decide) ?_
        refine RQ.seg 1 (pc' := 90) (L' := [some (.ref 80), some (.int (iI b)), some (.int (iI j))]) (st' := [.int (iI ((ar 86) (3 * b + j)))]) (g1 := (HW (usc sc 8000 0) ar tx oc rl ou tl, q)) rfl ?_
        refine RQ.ret rfl rfl ?_
        first | (exfalso; omega) | (refine ⟨?_, ?_⟩ <;> ((try unfold sBrig); (repeat (first | rw [if_pos (by omega)] | rw [if_neg (by omega)])); (try rfl)))
    · skip
      refine RQ.call rfl rfl (m_isIn_f (by omega) (by omega) (by omega) h2) ?_
      refine RQ.seg 7 (pc' := 37) (L' := [some (.ref 80), some (.int (iI b)), some (.int (iI j))]) (st' := [.int (iI 0)]) (g1 := (HW (usc sc 8000 1) ar tx oc rl ou tl, q)) rfl ?_
      refine RQ.ret rfl rfl ?_
      first | (exfalso; omega) | (refine ⟨?_, ?_⟩ <;> ((try unfold sBrig); (repeat (first | rw [if_pos (by omega)] | rw [if_neg (by omega)])); (try rfl)))
  · skip
    refine RQ.call rfl rfl (m_isBr_f (by omega) hnb h1) ?_
    refine RQ.seg 7 (pc' := 37) (L' := [some (.ref 80), some (.int (iI b)), some (.int (iI j))]) (st' := [.int (iI 0)]) (g1 := (HW (usc sc 8000 1) ar tx oc rl ou tl, q)) rfl ?_
    refine RQ.ret rfl rfl ?_
    first | (exfalso; omega) | (refine ⟨?_, ?_⟩ <;> ((try unfold sBrig); (repeat (first | rw [if_pos (by omega)] | rw [if_neg (by omega)])); (try rfl)))
theorem m_brig_f {K : PK} {d : Nat} {sc : Nat → Int} {ar : Nat → Int → Int} {tx oc : Nat} {rl : Nat → Option Nat} {ou : Nat → Int64} {tl : List PO} {q : Nat × Nat} {b j : Int} (rb : -2147483648 ≤ b ∧ b < 2147483648) (rj : -2147483648 ≤ j ∧ j < 2147483648) (hnb : 0 ≤ sc 8025 ∧ sc 8025 ≤ 3) (hP : ¬ ((0 ≤ b ∧ b < sc 8025) ∧ 0 ≤ j ∧ j ≤ 5)) : CallR K (d + 2) 185 [.ref 80, .int (iI b), .int (iI j)] (HW sc ar tx oc rl ou tl, q) (some (.int (iI 0))) (HW (usc sc 8000 1) ar tx oc rl ou tl, q) := by
  apply CQ.x
  refine CQ.of (own := 11) (n := 3) (ini := false) (rt := (some .int)) (cd := cd185) (by decide +kernel) rfl (by decide +kernel) rfl (Nat.le_of_ble_eq_true rfl) ?_
  refine RQ.seg 3 (pc' := 3) (L' := [some (.ref 80), some (.int (iI b)), some (.int (iI j))]) (st' := [.int (iI b), .ref 80, .ref 80]) (g1 := (HW sc ar tx oc rl ou tl, q)) rfl ?_
  rcases Decidable.em (0 ≤ b ∧ b < sc 8025) with h1 | h1
  · skip
    refine RQ.call rfl rfl (m_isBr_t (by omega) hnb h1) ?_
    refine RQ.seg 2 (pc' := 10) (L' := [some (.ref 80), some (.int (iI b)), some (.int (iI j))]) (st' := [.int (iI j), .ref 80]) (g1 := (HW sc ar tx oc rl ou tl, q)) rfl ?_
    refine RQ.seg 1 (pc' := 11) (L' := [some (.ref 80), some (.int (iI b)), some (.int (iI j))]) (st' := [.long ((iI j).toInt64), .ref 80]) (g1 := (HW sc ar tx oc rl ou tl, q)) rfl ?_
    refine RQ.to (L' := [some (.ref 80), some (.int (iI b)), some (.int (iI j))]) (st' := [.long (lL j), .ref 80]) rfl (by rw [iI_64 (by omega)]) ?_
    refine RQ.seg 2 (pc' := 15) (L' := [some (.ref 80), some (.int (iI b)), some (.int (iI j))]) (st' := [.long (lL 5), .long (lL 0), .long (lL j), .ref 80]) (g1 := (HW sc ar tx oc rl ou tl, q)) rfl ?_
    rcases Decidable.em (0 ≤ j ∧ j ≤ 5) with h2 | h2
    · skip
      refine RQ.call rfl rfl (m_isIn_t (by omega) (by omega) (by omega) h2) ?_
      refine RQ.seg 9 (pc' := 40) (L' := [some (.ref 80), some (.int (iI b)), some (.int (iI j))]) (st' := [.int (iI 3), .int (iI j)]) (g1 := (HW (usc sc 8000 0) ar tx oc rl ou tl, q)) rfl ?_
      refine RQ.if2 (a := j) (b := 3) rfl rfl rfl rfl (by omega) (by omega) (fun (h3 : 3 ≤ j) => ?_) (fun (h3 : ¬ 3 ≤ j) => ?_)
      · skip
        refine RQ.seg 2 (pc' := 58) (L' := [some (.ref 80), some (.int (iI b)), some (.int (iI j))]) (st' := [.int (iI 3), .int (iI j)]) (g1 := (HW (usc sc 8000 0) ar tx oc rl ou tl, q)) rfl ?_
        refine RQ.if2 (a := j) (b := 3) rfl rfl rfl rfl (by omega) (by omega) (fun (h4 : j ≠ 3) => ?_) (fun (h4 : ¬ j ≠ 3) => ?_)
        · skip
          refine RQ.seg 2 (pc' := 72) (L' := [some (.ref 80), some (.int (iI b)), some (.int (iI j))]) (st' := [.int (iI 4), .int (iI j)]) (g1 := (HW (usc sc 8000 0) ar tx oc rl ou tl, q)) rfl ?_
          refine RQ.if2 (a := j) (b := 4) rfl rfl rfl rfl (by omega) (by omega) (fun (h5 : j ≠ 4) => ?_) (fun (h5 : ¬ j ≠ 4) => ?_)
          · skip
            refine RQ.seg 3 (pc' := 89) (L' := [some (.ref 80), some (.int (iI b)), some (.int (iI j))]) (st' := [.int (iI b), .ref 93]) (g1 := (HW (usc sc 8000 0) ar tx oc rl ou tl, q)) rfl ?_
            refine RQ.iald (z := b) rfl rfl rfl (by omega) (by decide) ?_
            refine RQ.ret rfl rfl ?_
            first | (exfalso; omega) | (refine ⟨?_, ?_⟩ <;> ((try unfold sBrig); (repeat (first | rw [if_pos (by omega)] | rw [if_neg (by omega)])); (try rfl)))
          · skip
            refine RQ.seg 3 (pc' := 80) (L' := [some (.ref 80), some (.int (iI b)), some (.int (iI j))]) (st' := [.int (iI b), .ref 92]) (g1 := (HW (usc sc 8000 0) ar tx oc rl ou tl, q)) rfl ?_
            refine RQ.iald (z := b) rfl rfl rfl (by omega) (by decide) ?_
            refine RQ.seg 1 (pc' := 90) (L' := [some (.ref 80), some (.int (iI b)), some (.int (iI j))]) (st' := [.int (iI ((ar 92) b))]) (g1 := (HW (usc sc 8000 0) ar tx oc rl ou tl, q)) rfl ?_
            refine RQ.ret rfl rfl ?_
            first | (exfalso; omega) | (refine ⟨?_, ?_⟩ <;> ((try unfold sBrig); (repeat (first | rw [if_pos (by omega)] | rw [if_neg (by omega)])); (try rfl)))
        · skip
          refine RQ.seg 3 (pc' := 66) (L' := [some (.ref 80), some (.int (iI b)), some (.int (iI j))]) (st' := [.int (iI b), .ref 91]) (g1 := (HW (usc sc 8000 0) ar tx oc rl ou tl, q)) rfl ?_
          refine RQ.iald (z := b) rfl rfl rfl (by omega) (by decide) ?_
          refine RQ.seg 1 (pc' := 90) (L' := [some (.ref 80), some (.int (iI b)), some (.int (iI j))]) (st' := [.int (iI ((ar 91) b))]) (g1 := (HW (usc sc 8000 0) ar tx oc rl ou tl, q)) rfl ?_
          refine RQ.ret rfl rfl ?_
          first | (exfalso; omega) | (refine ⟨?_, ?_⟩ <;> ((try unfold sBrig); (repeat (first | rw [if_pos (by omega)] | rw [if_neg (by omega)])); (try rfl)))
      · skip
        refine RQ.seg 7 (pc' := 52) (L' := [some (.ref 80), some (.int (iI b)), some (.int (iI j))]) (st' := [.int (((iI 3) * (iI b)) + (iI j)), .ref 86]) (g1 := (HW (usc sc 8000 0) ar tx oc rl ou tl, q)) rfl ?_
        refine RQ.iald (z := (3 * b + j)) rfl (by simp only [iI_add, iI_sub, iI_mul, iI_neg]) rfl (by omega) (by decide) ?_
        refine RQ.seg 1 (pc' := 90) (L' := [some (.ref 80), some (.int (iI b)), some (.int (iI j))]) (st' := [.int (iI ((ar 86) (3 * b + j)))]) (g1 := (HW (usc sc 8000 0) ar tx oc rl ou tl, q)) rfl ?_
        refine RQ.ret rfl rfl ?_
        first | (exfalso; omega) | (refine ⟨?_, ?_⟩ <;> ((try unfold sBrig); (repeat (first | rw [if_pos (by omega)] | rw [if_neg (by omega)])); (try rfl)))
    · skip
      refine RQ.call rfl rfl (m_isIn_f (by omega) (by omega) (by omega) h2) ?_
      refine RQ.seg 7 (pc' := 37) (L' := [some (.ref 80), some (.int (iI b)), some (.int (iI j))]) (st' := [.int (iI 0)]) (g1 := (HW (usc sc 8000 1) ar tx oc rl ou tl, q)) rfl ?_
      refine RQ.ret rfl rfl ?_
      first | (exfalso; omega) | (refine ⟨?_, ?_⟩ <;> ((try unfold sBrig); (repeat (first | rw [if_pos (by omega)] | rw [if_neg (by omega)])); (try rfl)))
  · skip
    refine RQ.call rfl rfl (m_isBr_f (by omega) hnb h1) ?_
    refine RQ.seg 7 (pc' := 37) (L' := [some (.ref 80), some (.int (iI b)), some (.int (iI j))]) (st' := [.int (iI 0)]) (g1 := (HW (usc sc 8000 1) ar tx oc rl ou tl, q)) rfl ?_
    refine RQ.ret rfl rfl ?_
    first | (exfalso; omega) | (refine ⟨?_, ?_⟩ <;> ((try unfold sBrig); (repeat (first | rw [if_pos (by omega)] | rw [if_neg (by omega)])); (try rfl)))
