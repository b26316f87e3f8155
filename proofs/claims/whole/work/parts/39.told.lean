/-! told, all, child of both sides, by wip/tools -/
theorem RQ.lsw {K : PK} {d own : Nat} {ini : Bool} {rt : Option FieldType} {cd : PC} {pc : Nat} {L : PL} {st : List Value} {g : PG} {Q : Option Value → PG → Prop} {dd : Int} {ps : Array (Int × Int)} {len t : Nat} {x : Int32} {z o : Int} (hf : pfetch cd pc = some (.lookupswitch dd ps, len)) (hx : x = iI z) (rz : -2147483648 ≤ z ∧ z < 2147483648) (hs : (ps.toList.zip (ps.toList.drop 1)).all (fun (a, next) => a.1 < next.1) = true) (ho : Op.lookupswitch.offset ps.toList dd z = o) (ht : ptgt pc o = some t) (k : RQ K d own ini rt cd t L st g Q) : RQ K d own ini rt cd pc L (.int x :: st) g Q := by
  subst hx
  refine RQ.step hf (S := (t, L, st, g)) ?_ k
  show plsw dd ps pc L g (.int (iI z) :: st) = _
  simp only [plsw, iI_toInt rz, ho, ht, hs, Option.map, cond_true]
def sTold (nw nb : Int) (W B : Int → Int → Int) (law : Int → Int) (row b j : Int) : Int := if (0 ≤ b ∧ b < nb) ∧ (0 ≤ j ∧ j ≤ 3) ∧ rok nw nb W B row then (if j = 0 then sS (svn nb W B (prow nb row)) b else if j = 1 then gnr nw nb W B law (prow nb row) b else if bkv nb B (prow nb row) b = 1 then -1 else if j = 2 then shk nb W B (prow nb row) b else clb nb W B (prow nb row) b) else -1000000
def sAll (nw nb : Int) (W B : Int → Int → Int) (row j : Int) : Int := if (j = 9 ∨ 0 ≤ j ∧ j ≤ nw) ∧ rok nw nb W B row then (if j = 0 then sT (svn nb W B (prow nb row)) else if j = 9 then mkb nb B (prow nb row) else W (j - 1) 2 - sL (svn nb W B (prow nb row)) (j - 1)) else -1000000
def sChild (nw nb : Int) (W B : Int → Int → Int) (row n j : Int) : Int := if (0 ≤ j ∧ j ≤ 2) ∧ rok nw nb W B row ∧ (0 ≤ n ∧ n < sT (svn nb W B (prow nb row))) then (if j = 0 then sA (svn nb W B (prow nb row)) n else if j = 1 then sB (svn nb W B (prow nb row)) n else sC (svn nb W B (prow nb row)) n) else -1000000
theorem m_told {K : PK} {d : Nat} {sc : Nat → Int} {ar : Nat → Int → Int} {tx oc : Nat} {rl : Nat → Option Nat} {ou : Nat → Int64} {tl : List PO} {q : Nat × Nat} {row b j : Int} {nw nb : Int} {W B : Int → Int → Int} (hF : FrOK nw nb W B) (hM : FrM (sc 8024) (sc 8025) (ar 85) (ar 86) nw nb W B) (hP : PMx nw nb W B (ar 94) (ar 95)) {law : Int → Int} (hlw : ∀ j, 0 ≤ j → j < 4 → ar 87 j = law j) (hL : LwOK law) (rrow : -2147483648 ≤ row ∧ row < 2147483648) (rb : -2147483648 ≤ b ∧ b < 2147483648) (rj : -2147483648 ≤ j ∧ j < 2147483648) : CQ K (d + 4) 199 [.ref 80, .int (iI row), .int (iI b), .int (iI j)] (HW sc ar tx oc rl ou tl, q) (fun r g' => r = some (.int (iI (sTold nw nb W B law row b j))) ∧ ∃ sc' ar', g' = (HW sc' ar' tx oc rl ou tl, q) ∧ Same scF sc sc' ∧ Same scA ar ar') := by
  have hn := hF.1
  have hm1 := hM.1
  have hm2 := hM.2.1
  refine CQ.of (own := 11) (n := 4) (ini := false) (rt := (some .int)) (cd := cd199) (by decide +kernel) rfl (by decide +kernel) rfl (Nat.le_of_ble_eq_true rfl) ?_
  refine RQ.seg 5 (pc' := 7) (L' := [some (.ref 80), some (.int (iI row)), some (.int (iI b)), some (.int (iI j))]) (st' := [.int (iI b), .ref 80]) (g1 := (HW (usc sc 8000 0) ar tx oc rl ou tl, q)) rfl ?_
  rcases Decidable.em (0 ≤ b ∧ b < nb) with h1 | h1
  · skip
    refine RQ.call rfl rfl (m_isBrN_t (by omega) hM hF h1) ?_
    refine RQ.seg 2 (pc' := 14) (L' := [some (.ref 80), some (.int (iI row)), some (.int (iI b)), some (.int (iI j))]) (st' := [.int (iI j)]) (g1 := (HW (usc sc 8000 0) ar tx oc rl ou tl, q)) rfl ?_
    refine RQ.seg 1 (pc' := 15) (L' := [some (.ref 80), some (.int (iI row)), some (.int (iI b)), some (.int (iI j))]) (st' := [.long ((iI j).toInt64)]) (g1 := (HW (usc sc 8000 0) ar tx oc rl ou tl, q)) rfl ?_
    refine RQ.to (L' := [some (.ref 80), some (.int (iI row)), some (.int (iI b)), some (.int (iI j))]) (st' := [.long (lL j)]) rfl (by rw [iI_64 (by omega)]) ?_
    refine RQ.seg 2 (pc' := 19) (L' := [some (.ref 80), some (.int (iI row)), some (.int (iI b)), some (.int (iI j))]) (st' := [.long (lL 3), .long (lL 0), .long (lL j)]) (g1 := (HW (usc sc 8000 0) ar tx oc rl ou tl, q)) rfl ?_
    rcases Decidable.em (0 ≤ j ∧ j ≤ 3) with h2 | h2
    · skip
      refine RQ.call rfl rfl (m_isIn_t (by omega) (by omega) (by omega) h2) ?_
      refine RQ.seg 3 (pc' := 27) (L' := [some (.ref 80), some (.int (iI row)), some (.int (iI b)), some (.int (iI j))]) (st' := [.int (iI row), .ref 80]) (g1 := (HW (usc sc 8000 0) ar tx oc rl ou tl, q)) rfl ?_
      refine RQ.callQ rfl rfl (m_isRow (sc := usc sc 8000 0) (ar := ar) hF hM hP (row := row) (by omega)) (fun rv g1 hc => ?_)
      rcases hc with ⟨hrk, rfl, rfl⟩ | ⟨hrk, rfl, f, rfl⟩
      · skip
        refine RQ.seg 2 (pc' := 38) (L' := [some (.ref 80), some (.int (iI row)), some (.int (iI b)), some (.int (iI j))]) (st' := [.ref 80]) (g1 := (HW (usc sc 8000 0) (usc ar 96 (rwp nb.toNat row (ar 96))) tx oc rl ou tl, q)) rfl ?_
        have hmy := prow_ok hn.2.2.1 hrk.2.2
        refine RQ.callQ rfl rfl (m_judgeA (sc := usc sc 8000 0) (ar := usc ar 96 (rwp nb.toNat row (ar 96))) (P := (prow nb row)) hF hM (fun b h0 h1 => prow_c _ hn.2.2.1 h0 h1) hmy hlw hL) (fun rv g1 hc => ?_)
        obtain ⟨rfl, sc1, ar1, rfl, hJ, hs1, ha1⟩ := hc
        have hJ1 := hJ.2.1
        refine RQ.seg 1 (pc' := 42) (L' := [some (.ref 80), some (.int (iI row)), some (.int (iI b)), some (.int (iI j))]) (st' := [.int (iI j)]) (g1 := (HW sc1 ar1 tx oc rl ou tl, q)) rfl ?_
        refine RQ.if1 (a := j) rfl rfl rfl (by omega) (fun (h3 : j ≠ 0) => ?_) (fun (h3 : ¬ j ≠ 0) => ?_)
        · skip
          refine RQ.seg 2 (pc' := 54) (L' := [some (.ref 80), some (.int (iI row)), some (.int (iI b)), some (.int (iI j))]) (st' := [.int (iI 1), .int (iI j)]) (g1 := (HW sc1 ar1 tx oc rl ou tl, q)) rfl ?_
          refine RQ.if2 (a := j) (b := 1) rfl rfl rfl rfl (by omega) (by omega) (fun (h4 : j ≠ 1) => ?_) (fun (h4 : ¬ j ≠ 1) => ?_)
          · skip
            refine RQ.seg 1 (pc' := 65) (L' := [some (.ref 80), some (.int (iI row)), some (.int (iI b)), some (.int (iI j))]) (st' := [.ref 80]) (g1 := (HW sc1 ar1 tx oc rl ou tl, q)) rfl ?_
            refine RQ.seg 1 (pc' := 68) (L' := [some (.ref 80), some (.int (iI row)), some (.int (iI b)), some (.int (iI j))]) (st' := [.int (iI (sc1 8046))]) (g1 := (HW sc1 ar1 tx oc rl ou tl, q)) rfl ?_
            refine RQ.to (L' := [some (.ref 80), some (.int (iI row)), some (.int (iI b)), some (.int (iI j))]) (st' := [.int (iI (mkb nb B (prow nb row)))]) rfl (by rw [show sc1 8046 = mkb nb B (prow nb row) from hJ.2.2.1]) ?_
            refine RQ.seg 1 (pc' := 69) (L' := [some (.ref 80), some (.int (iI row)), some (.int (iI b)), some (.int (iI j))]) (st' := [.int (iI b), .int (iI (mkb nb B (prow nb row)))]) (g1 := (HW sc1 ar1 tx oc rl ou tl, q)) rfl ?_
            rcases (show bkv nb B (prow nb row) b = 1 ∨ bkv nb B (prow nb row) b = 0 by have := bkv_r nb B (prow nb row) b; omega) with h5 | h5
            · skip
              refine RQ.call rfl rfl (m_hasB_t (by omega) (by omega) h5) ?_
              refine RQ.seg 3 (pc' := 99) (L' := [some (.ref 80), some (.int (iI row)), some (.int (iI b)), some (.int (iI j))]) (st' := [.int (iI (-1))]) (g1 := (HW sc1 ar1 tx oc rl ou tl, q)) rfl ?_
              refine RQ.ret rfl rfl ?_
              refine ⟨?_, _, _, rfl, (Same.tr (by repeat (first | exact Same.rf | refine Same.us rfl ?_)) (hs1.w rfl)), (Same.tr (by repeat (first | exact Same.rf | refine Same.us rfl ?_)) (ha1.w rfl))⟩
              first | (exfalso; omega) | (congr 3; unfold sTold; first | (rw [if_neg (fun z => by first | omega | exact hrk z.2.2)]; done) | (rw [if_pos (by first | exact ⟨by omega, by omega, hrk⟩ | exact ⟨by omega, hrk⟩ | omega)]; (repeat (first | rw [if_pos (by omega)] | rw [if_neg (by omega)])); done))
            · skip
              refine RQ.call rfl rfl (m_hasB_f (by omega) (by omega) h5) ?_
              refine RQ.seg 3 (pc' := 81) (L' := [some (.ref 80), some (.int (iI row)), some (.int (iI b)), some (.int (iI j))]) (st' := [.int (iI 2), .int (iI j)]) (g1 := (HW sc1 ar1 tx oc rl ou tl, q)) rfl ?_
              refine RQ.if2 (a := j) (b := 2) rfl rfl rfl rfl (by omega) (by omega) (fun (h6 : j ≠ 2) => ?_) (fun (h6 : ¬ j ≠ 2) => ?_)
              · skip
                refine RQ.seg 3 (pc' := 98) (L' := [some (.ref 80), some (.int (iI row)), some (.int (iI b)), some (.int (iI j))]) (st' := [.int (iI b), .ref 98]) (g1 := (HW sc1 ar1 tx oc rl ou tl, q)) rfl ?_
                refine RQ.ialdv (z := b) (v := (clb nb W B (prow nb row) b)) rfl rfl rfl (by omega) (by decide) (hJ.2.2.2.2.1 b (by omega) (by omega) (by omega)) ?_
                refine RQ.ret rfl rfl ?_
                refine ⟨?_, _, _, rfl, (Same.tr (by repeat (first | exact Same.rf | refine Same.us rfl ?_)) (hs1.w rfl)), (Same.tr (by repeat (first | exact Same.rf | refine Same.us rfl ?_)) (ha1.w rfl))⟩
                first | (exfalso; omega) | (congr 3; unfold sTold; first | (rw [if_neg (fun z => by first | omega | exact hrk z.2.2)]; done) | (rw [if_pos (by first | exact ⟨by omega, by omega, hrk⟩ | exact ⟨by omega, hrk⟩ | omega)]; (repeat (first | rw [if_pos (by omega)] | rw [if_neg (by omega)])); done))
              · skip
                refine RQ.seg 3 (pc' := 89) (L' := [some (.ref 80), some (.int (iI row)), some (.int (iI b)), some (.int (iI j))]) (st' := [.int (iI b), .ref 97]) (g1 := (HW sc1 ar1 tx oc rl ou tl, q)) rfl ?_
                refine RQ.ialdv (z := b) (v := (shk nb W B (prow nb row) b)) rfl rfl rfl (by omega) (by decide) (hJ.2.2.2.1 b (by omega) (by omega)) ?_
                refine RQ.seg 1 (pc' := 99) (L' := [some (.ref 80), some (.int (iI row)), some (.int (iI b)), some (.int (iI j))]) (st' := [.int (iI (shk nb W B (prow nb row) b))]) (g1 := (HW sc1 ar1 tx oc rl ou tl, q)) rfl ?_
                refine RQ.ret rfl rfl ?_
                refine ⟨?_, _, _, rfl, (Same.tr (by repeat (first | exact Same.rf | refine Same.us rfl ?_)) (hs1.w rfl)), (Same.tr (by repeat (first | exact Same.rf | refine Same.us rfl ?_)) (ha1.w rfl))⟩
                first | (exfalso; omega) | (congr 3; unfold sTold; first | (rw [if_neg (fun z => by first | omega | exact hrk z.2.2)]; done) | (rw [if_pos (by first | exact ⟨by omega, by omega, hrk⟩ | exact ⟨by omega, hrk⟩ | omega)]; (repeat (first | rw [if_pos (by omega)] | rw [if_neg (by omega)])); done))
          · skip
            refine RQ.seg 3 (pc' := 62) (L' := [some (.ref 80), some (.int (iI row)), some (.int (iI b)), some (.int (iI j))]) (st' := [.int (iI b), .ref 100]) (g1 := (HW sc1 ar1 tx oc rl ou tl, q)) rfl ?_
            refine RQ.ialdv (z := b) (v := (gnr nw nb W B law (prow nb row) b)) rfl rfl rfl (by omega) (by decide) (hJ.2.2.2.2.2 b (by omega) (by omega)) ?_
            refine RQ.ret rfl rfl ?_
            refine ⟨?_, _, _, rfl, (Same.tr (by repeat (first | exact Same.rf | refine Same.us rfl ?_)) (hs1.w rfl)), (Same.tr (by repeat (first | exact Same.rf | refine Same.us rfl ?_)) (ha1.w rfl))⟩
            first | (exfalso; omega) | (congr 3; unfold sTold; first | (rw [if_neg (fun z => by first | omega | exact hrk z.2.2)]; done) | (rw [if_pos (by first | exact ⟨by omega, by omega, hrk⟩ | exact ⟨by omega, hrk⟩ | omega)]; (repeat (first | rw [if_pos (by omega)] | rw [if_neg (by omega)])); done))
        · skip
          refine RQ.seg 3 (pc' := 50) (L' := [some (.ref 80), some (.int (iI row)), some (.int (iI b)), some (.int (iI j))]) (st' := [.int (iI b), .ref 99]) (g1 := (HW sc1 ar1 tx oc rl ou tl, q)) rfl ?_
          refine RQ.ialdv (z := b) (v := (sS (svn nb W B (prow nb row)) b)) rfl rfl rfl (by omega) (by decide) (hJ1.2.2.1 b (by omega) (by omega)) ?_
          refine RQ.ret rfl rfl ?_
          refine ⟨?_, _, _, rfl, (Same.tr (by repeat (first | exact Same.rf | refine Same.us rfl ?_)) (hs1.w rfl)), (Same.tr (by repeat (first | exact Same.rf | refine Same.us rfl ?_)) (ha1.w rfl))⟩
          first | (exfalso; omega) | (congr 3; unfold sTold; first | (rw [if_neg (fun z => by first | omega | exact hrk z.2.2)]; done) | (rw [if_pos (by first | exact ⟨by omega, by omega, hrk⟩ | exact ⟨by omega, hrk⟩ | omega)]; (repeat (first | rw [if_pos (by omega)] | rw [if_neg (by omega)])); done))
      · skip
        refine RQ.seg 2 (pc' := 36) (L' := [some (.ref 80), some (.int (iI row)), some (.int (iI b)), some (.int (iI j))]) (st' := [.int (iI (-1000000))]) (g1 := (HW (usc sc 8000 0) (usc ar 96 f) tx oc rl ou tl, q)) rfl ?_
        refine RQ.ret rfl rfl ?_
        refine ⟨?_, _, _, rfl, (by repeat (first | exact Same.rf | refine Same.us rfl ?_)), (by repeat (first | exact Same.rf | refine Same.us rfl ?_))⟩
        first | (exfalso; omega) | (congr 3; unfold sTold; first | (rw [if_neg (fun z => by first | omega | exact hrk z.2.2)]; done) | (rw [if_pos (by first | exact ⟨by omega, by omega, hrk⟩ | exact ⟨by omega, hrk⟩ | omega)]; (repeat (first | rw [if_pos (by omega)] | rw [if_neg (by omega)])); done))
    · skip
      refine RQ.call rfl rfl (m_isIn_f (by omega) (by omega) (by omega) h2) ?_
      refine RQ.seg 2 (pc' := 36) (L' := [some (.ref 80), some (.int (iI row)), some (.int (iI b)), some (.int (iI j))]) (st' := [.int (iI (-1000000))]) (g1 := (HW (usc sc 8000 0) ar tx oc rl ou tl, q)) rfl ?_
      refine RQ.ret rfl rfl ?_
      refine ⟨?_, _, _, rfl, (by repeat (first | exact Same.rf | refine Same.us rfl ?_)), (by repeat (first | exact Same.rf | refine Same.us rfl ?_))⟩
      first | (exfalso; omega) | (congr 3; unfold sTold; first | (rw [if_neg (fun z => by first | omega | exact hrk z.2.2)]; done) | (rw [if_pos (by first | exact ⟨by omega, by omega, hrk⟩ | exact ⟨by omega, hrk⟩ | omega)]; (repeat (first | rw [if_pos (by omega)] | rw [if_neg (by omega)])); done))
  · skip
    refine RQ.call rfl rfl (m_isBrN_f (by omega) hM hF h1) ?_
    refine RQ.seg 2 (pc' := 36) (L' := [some (.ref 80), some (.int (iI row)), some (.int (iI b)), some (.int (iI j))]) (st' := [.int (iI (-1000000))]) (g1 := (HW (usc sc 8000 0) ar tx oc rl ou tl, q)) rfl ?_
    refine RQ.ret rfl rfl ?_
    refine ⟨?_, _, _, rfl, (by repeat (first | exact Same.rf | refine Same.us rfl ?_)), (by repeat (first | exact Same.rf | refine Same.us rfl ?_))⟩
    first | (exfalso; omega) | (congr 3; unfold sTold; first | (rw [if_neg (fun z => by first | omega | exact hrk z.2.2)]; done) | (rw [if_pos (by first | exact ⟨by omega, by omega, hrk⟩ | exact ⟨by omega, hrk⟩ | omega)]; (repeat (first | rw [if_pos (by omega)] | rw [if_neg (by omega)])); done))
theorem m_all {K : PK} {d : Nat} {sc : Nat → Int} {ar : Nat → Int → Int} {tx oc : Nat} {rl : Nat → Option Nat} {ou : Nat → Int64} {tl : List PO} {q : Nat × Nat} {row j : Int} {nw nb : Int} {W B : Int → Int → Int} (hF : FrOK nw nb W B) (hM : FrM (sc 8024) (sc 8025) (ar 85) (ar 86) nw nb W B) (hP : PMx nw nb W B (ar 94) (ar 95)) {law : Int → Int} (hlw : ∀ j, 0 ≤ j → j < 4 → ar 87 j = law j) (hL : LwOK law) (rrow : -2147483648 ≤ row ∧ row < 2147483648) (rj : -2147483648 ≤ j ∧ j < 2147483648) : CQ K (d + 4) 200 [.ref 80, .int (iI row), .int (iI j)] (HW sc ar tx oc rl ou tl, q) (fun r g' => r = some (.int (iI (sAll nw nb W B row j))) ∧ ∃ sc' ar', g' = (HW sc' ar' tx oc rl ou tl, q) ∧ Same scF sc sc' ∧ Same scA ar ar') := by
  have hn := hF.1
  have hm1 := hM.1
  have hm2 := hM.2.1
  refine CQ.of (own := 11) (n := 3) (ini := false) (rt := (some .int)) (cd := cd200) (by decide +kernel) rfl (by decide +kernel) rfl (Nat.le_of_ble_eq_true rfl) ?_
  refine RQ.seg 5 (pc' := 8) (L' := [some (.ref 80), some (.int (iI row)), some (.int (iI j))]) (st' := [.int (iI 9), .int (iI j)]) (g1 := (HW (usc sc 8000 0) ar tx oc rl ou tl, q)) rfl ?_
  refine RQ.if2 (a := j) (b := 9) rfl rfl rfl rfl (by omega) (by omega) (fun (h1 : j = 9) => ?_) (fun (h1 : ¬ j = 9) => ?_)
  · skip
    refine RQ.seg 2 (pc' := 27) (L' := [some (.ref 80), some (.int (iI row)), some (.int (iI j))]) (st' := [.int (iI row), .ref 80]) (g1 := (HW (usc sc 8000 0) ar tx oc rl ou tl, q)) rfl ?_
    refine RQ.callQ rfl rfl (m_isRow (sc := usc sc 8000 0) (ar := ar) hF hM hP (row := row) (by omega)) (fun rv g1 hc => ?_)
    rcases hc with ⟨hrk, rfl, rfl⟩ | ⟨hrk, rfl, f, rfl⟩
    · skip
      refine RQ.seg 2 (pc' := 38) (L' := [some (.ref 80), some (.int (iI row)), some (.int (iI j))]) (st' := [.ref 80]) (g1 := (HW (usc sc 8000 0) (usc ar 96 (rwp nb.toNat row (ar 96))) tx oc rl ou tl, q)) rfl ?_
      have hmy := prow_ok hn.2.2.1 hrk.2.2
      refine RQ.callQ rfl rfl (m_judgeA (sc := usc sc 8000 0) (ar := usc ar 96 (rwp nb.toNat row (ar 96))) (P := (prow nb row)) hF hM (fun b h0 h1 => prow_c _ hn.2.2.1 h0 h1) hmy hlw hL) (fun rv g1 hc => ?_)
      obtain ⟨rfl, sc1, ar1, rfl, hJ, hs1, ha1⟩ := hc
      have hJ1 := hJ.2.1
      have hTr := (svn_ok hF hmy).2.1
      have hlm := lsm_nn (svn_ok hF hmy)
      refine RQ.seg 1 (pc' := 42) (L' := [some (.ref 80), some (.int (iI row)), some (.int (iI j))]) (st' := [.int (iI j)]) (g1 := (HW sc1 ar1 tx oc rl ou tl, q)) rfl ?_
      refine RQ.if1 (a := j) rfl rfl rfl (by omega) (fun (h2 : j ≠ 0) => ?_) (fun (h2 : ¬ j ≠ 0) => ?_)
      · skip
        refine RQ.seg 2 (pc' := 55) (L' := [some (.ref 80), some (.int (iI row)), some (.int (iI j))]) (st' := [.int (iI 9), .int (iI j)]) (g1 := (HW sc1 ar1 tx oc rl ou tl, q)) rfl ?_
        refine RQ.if2 (a := j) (b := 9) rfl rfl rfl rfl (by omega) (by omega) (fun (h3 : j ≠ 9) => ?_) (fun (h3 : ¬ j ≠ 9) => ?_)
        · skip
          refine RQ.seg 9 (pc' := 76) (L' := [some (.ref 80), some (.int (iI row)), some (.int (iI j))]) (st' := [.int (((iI 4) * ((iI j) - (iI 1))) + (iI 2)), .ref 85]) (g1 := (HW sc1 ar1 tx oc rl ou tl, q)) rfl ?_
          refine RQ.ialdv (z := (4 * (j - 1) + 2)) (v := (W (j - 1) 2)) rfl (by simp only [iI_add, iI_sub, iI_mul, iI_neg]) rfl (by omega) (by decide) ((congrFun (ha1 85 rfl) _).trans (frm_w2 hM (by omega) (by omega))) ?_
          refine RQ.seg 5 (pc' := 84) (L' := [some (.ref 80), some (.int (iI row)), some (.int (iI j))]) (st' := [.int ((iI j) - (iI 1)), .ref 101, .int (iI (W (j - 1) 2))]) (g1 := (HW sc1 ar1 tx oc rl ou tl, q)) rfl ?_
          refine RQ.ialdv (z := (j - 1)) (v := (sL (svn nb W B (prow nb row)) (j - 1))) rfl (by simp only [iI_add, iI_sub, iI_mul, iI_neg]) rfl (by omega) (by decide) (hJ1.1 (j - 1) (by omega) (by omega)).1 ?_
          refine RQ.seg 1 (pc' := 86) (L' := [some (.ref 80), some (.int (iI row)), some (.int (iI j))]) (st' := [.int ((iI (W (j - 1) 2)) - (iI (sL (svn nb W B (prow nb row)) (j - 1))))]) (g1 := (HW sc1 ar1 tx oc rl ou tl, q)) rfl ?_
          refine RQ.to (L' := [some (.ref 80), some (.int (iI row)), some (.int (iI j))]) (st' := [.int (iI (W (j - 1) 2 - (sL (svn nb W B (prow nb row)) (j - 1))))]) rfl (by simp only [iI_add, iI_sub, iI_mul, iI_neg]) ?_
          refine RQ.ret rfl rfl ?_
          refine ⟨?_, _, _, rfl, (Same.tr (by repeat (first | exact Same.rf | refine Same.us rfl ?_)) (hs1.w rfl)), (Same.tr (by repeat (first | exact Same.rf | refine Same.us rfl ?_)) (ha1.w rfl))⟩
          first | (exfalso; omega) | (congr 3; unfold sAll; first | (rw [if_neg (fun z => by first | omega | exact hrk z.2)]; done) | (rw [if_pos (by first | exact ⟨by omega, by omega, hrk⟩ | exact ⟨by omega, hrk⟩ | omega)]; (repeat (first | rw [if_pos (by omega)] | rw [if_neg (by omega)])); done))
        · skip
          refine RQ.seg 1 (pc' := 59) (L' := [some (.ref 80), some (.int (iI row)), some (.int (iI j))]) (st' := [.ref 80]) (g1 := (HW sc1 ar1 tx oc rl ou tl, q)) rfl ?_
          refine RQ.seg 1 (pc' := 62) (L' := [some (.ref 80), some (.int (iI row)), some (.int (iI j))]) (st' := [.int (iI (sc1 8046))]) (g1 := (HW sc1 ar1 tx oc rl ou tl, q)) rfl ?_
          refine RQ.to (L' := [some (.ref 80), some (.int (iI row)), some (.int (iI j))]) (st' := [.int (iI (mkb nb B (prow nb row)))]) rfl (by rw [show sc1 8046 = mkb nb B (prow nb row) from hJ.2.2.1]) ?_
          refine RQ.seg 1 (pc' := 86) (L' := [some (.ref 80), some (.int (iI row)), some (.int (iI j))]) (st' := [.int (iI (mkb nb B (prow nb row)))]) (g1 := (HW sc1 ar1 tx oc rl ou tl, q)) rfl ?_
          refine RQ.ret rfl rfl ?_
          refine ⟨?_, _, _, rfl, (Same.tr (by repeat (first | exact Same.rf | refine Same.us rfl ?_)) (hs1.w rfl)), (Same.tr (by repeat (first | exact Same.rf | refine Same.us rfl ?_)) (ha1.w rfl))⟩
          first | (exfalso; omega) | (congr 3; unfold sAll; first | (rw [if_neg (fun z => by first | omega | exact hrk z.2)]; done) | (rw [if_pos (by first | exact ⟨by omega, by omega, hrk⟩ | exact ⟨by omega, hrk⟩ | omega)]; (repeat (first | rw [if_pos (by omega)] | rw [if_neg (by omega)])); done))
      · skip
        refine RQ.seg 1 (pc' := 46) (L' := [some (.ref 80), some (.int (iI row)), some (.int (iI j))]) (st' := [.ref 80]) (g1 := (HW sc1 ar1 tx oc rl ou tl, q)) rfl ?_
        refine RQ.seg 1 (pc' := 49) (L' := [some (.ref 80), some (.int (iI row)), some (.int (iI j))]) (st' := [.int (iI (sc1 8047))]) (g1 := (HW sc1 ar1 tx oc rl ou tl, q)) rfl ?_
        refine RQ.to (L' := [some (.ref 80), some (.int (iI row)), some (.int (iI j))]) (st' := [.int (iI (sT (svn nb W B (prow nb row))))]) rfl (by rw [show sc1 8047 = sT (svn nb W B (prow nb row)) from hJ1.2.1]) ?_
        refine RQ.seg 1 (pc' := 86) (L' := [some (.ref 80), some (.int (iI row)), some (.int (iI j))]) (st' := [.int (iI (sT (svn nb W B (prow nb row))))]) (g1 := (HW sc1 ar1 tx oc rl ou tl, q)) rfl ?_
        refine RQ.ret rfl rfl ?_
        refine ⟨?_, _, _, rfl, (Same.tr (by repeat (first | exact Same.rf | refine Same.us rfl ?_)) (hs1.w rfl)), (Same.tr (by repeat (first | exact Same.rf | refine Same.us rfl ?_)) (ha1.w rfl))⟩
        first | (exfalso; omega) | (congr 3; unfold sAll; first | (rw [if_neg (fun z => by first | omega | exact hrk z.2)]; done) | (rw [if_pos (by first | exact ⟨by omega, by omega, hrk⟩ | exact ⟨by omega, hrk⟩ | omega)]; (repeat (first | rw [if_pos (by omega)] | rw [if_neg (by omega)])); done))
    · skip
      refine RQ.seg 2 (pc' := 36) (L' := [some (.ref 80), some (.int (iI row)), some (.int (iI j))]) (st' := [.int (iI (-1000000))]) (g1 := (HW (usc sc 8000 0) (usc ar 96 f) tx oc rl ou tl, q)) rfl ?_
      refine RQ.ret rfl rfl ?_
      refine ⟨?_, _, _, rfl, (by repeat (first | exact Same.rf | refine Same.us rfl ?_)), (by repeat (first | exact Same.rf | refine Same.us rfl ?_))⟩
      first | (exfalso; omega) | (congr 3; unfold sAll; first | (rw [if_neg (fun z => by first | omega | exact hrk z.2)]; done) | (rw [if_pos (by first | exact ⟨by omega, by omega, hrk⟩ | exact ⟨by omega, hrk⟩ | omega)]; (repeat (first | rw [if_pos (by omega)] | rw [if_neg (by omega)])); done))
  · skip
    refine RQ.seg 1 (pc' := 12) (L' := [some (.ref 80), some (.int (iI row)), some (.int (iI j))]) (st' := [.int (iI j)]) (g1 := (HW (usc sc 8000 0) ar tx oc rl ou tl, q)) rfl ?_
    refine RQ.seg 1 (pc' := 13) (L' := [some (.ref 80), some (.int (iI row)), some (.int (iI j))]) (st' := [.long ((iI j).toInt64)]) (g1 := (HW (usc sc 8000 0) ar tx oc rl ou tl, q)) rfl ?_
    refine RQ.to (L' := [some (.ref 80), some (.int (iI row)), some (.int (iI j))]) (st' := [.long (lL j)]) rfl (by rw [iI_64 (by omega)]) ?_
    refine RQ.seg 3 (pc' := 18) (L' := [some (.ref 80), some (.int (iI row)), some (.int (iI j))]) (st' := [.int (iI (sc 8024)), .long (lL 0), .long (lL j)]) (g1 := (HW (usc sc 8000 0) ar tx oc rl ou tl, q)) rfl ?_
    refine RQ.seg 1 (pc' := 19) (L' := [some (.ref 80), some (.int (iI row)), some (.int (iI j))]) (st' := [.long ((iI (sc 8024)).toInt64), .long (lL 0), .long (lL j)]) (g1 := (HW (usc sc 8000 0) ar tx oc rl ou tl, q)) rfl ?_
    refine RQ.to (L' := [some (.ref 80), some (.int (iI row)), some (.int (iI j))]) (st' := [.long (lL (sc 8024)), .long (lL 0), .long (lL j)]) rfl (by rw [iI_64 (by omega)]) ?_
    rcases Decidable.em (0 ≤ j ∧ j ≤ sc 8024) with h4 | h4
    · skip
      refine RQ.call rfl rfl (m_isIn_t (by omega) (by omega) (by omega) h4) ?_
      refine RQ.seg 3 (pc' := 27) (L' := [some (.ref 80), some (.int (iI row)), some (.int (iI j))]) (st' := [.int (iI row), .ref 80]) (g1 := (HW (usc sc 8000 0) ar tx oc rl ou tl, q)) rfl ?_
      refine RQ.callQ rfl rfl (m_isRow (sc := usc sc 8000 0) (ar := ar) hF hM hP (row := row) (by omega)) (fun rv g1 hc => ?_)
      rcases hc with ⟨hrk, rfl, rfl⟩ | ⟨hrk, rfl, f, rfl⟩
      · skip
        refine RQ.seg 2 (pc' := 38) (L' := [some (.ref 80), some (.int (iI row)), some (.int (iI j))]) (st' := [.ref 80]) (g1 := (HW (usc sc 8000 0) (usc ar 96 (rwp nb.toNat row (ar 96))) tx oc rl ou tl, q)) rfl ?_
        have hmy := prow_ok hn.2.2.1 hrk.2.2
        refine RQ.callQ rfl rfl (m_judgeA (sc := usc sc 8000 0) (ar := usc ar 96 (rwp nb.toNat row (ar 96))) (P := (prow nb row)) hF hM (fun b h0 h1 => prow_c _ hn.2.2.1 h0 h1) hmy hlw hL) (fun rv g1 hc => ?_)
        obtain ⟨rfl, sc1, ar1, rfl, hJ, hs1, ha1⟩ := hc
        have hJ1 := hJ.2.1
        have hTr := (svn_ok hF hmy).2.1
        have hlm := lsm_nn (svn_ok hF hmy)
        refine RQ.seg 1 (pc' := 42) (L' := [some (.ref 80), some (.int (iI row)), some (.int (iI j))]) (st' := [.int (iI j)]) (g1 := (HW sc1 ar1 tx oc rl ou tl, q)) rfl ?_
        refine RQ.if1 (a := j) rfl rfl rfl (by omega) (fun (h5 : j ≠ 0) => ?_) (fun (h5 : ¬ j ≠ 0) => ?_)
        · skip
          refine RQ.seg 2 (pc' := 55) (L' := [some (.ref 80), some (.int (iI row)), some (.int (iI j))]) (st' := [.int (iI 9), .int (iI j)]) (g1 := (HW sc1 ar1 tx oc rl ou tl, q)) rfl ?_
          refine RQ.if2 (a := j) (b := 9) rfl rfl rfl rfl (by omega) (by omega) (fun (h6 : j ≠ 9) => ?_) (fun (h6 : ¬ j ≠ 9) => ?_)
          · skip
            refine RQ.seg 9 (pc' := 76) (L' := [some (.ref 80), some (.int (iI row)), some (.int (iI j))]) (st' := [.int (((iI 4) * ((iI j) - (iI 1))) + (iI 2)), .ref 85]) (g1 := (HW sc1 ar1 tx oc rl ou tl, q)) rfl ?_
            refine RQ.ialdv (z := (4 * (j - 1) + 2)) (v := (W (j - 1) 2)) rfl (by simp only [iI_add, iI_sub, iI_mul, iI_neg]) rfl (by omega) (by decide) ((congrFun (ha1 85 rfl) _).trans (frm_w2 hM (by omega) (by omega))) ?_
            refine RQ.seg 5 (pc' := 84) (L' := [some (.ref 80), some (.int (iI row)), some (.int (iI j))]) (st' := [.int ((iI j) - (iI 1)), .ref 101, .int (iI (W (j - 1) 2))]) (g1 := (HW sc1 ar1 tx oc rl ou tl, q)) rfl ?_
            refine RQ.ialdv (z := (j - 1)) (v := (sL (svn nb W B (prow nb row)) (j - 1))) rfl (by simp only [iI_add, iI_sub, iI_mul, iI_neg]) rfl (by omega) (by decide) (hJ1.1 (j - 1) (by omega) (by omega)).1 ?_
            refine RQ.seg 1 (pc' := 86) (L' := [some (.ref 80), some (.int (iI row)), some (.int (iI j))]) (st' := [.int ((iI (W (j - 1) 2)) - (iI (sL (svn nb W B (prow nb row)) (j - 1))))]) (g1 := (HW sc1 ar1 tx oc rl ou tl, q)) rfl ?_
            refine RQ.to (L' := [some (.ref 80), some (.int (iI row)), some (.int (iI j))]) (st' := [.int (iI (W (j - 1) 2 - (sL (svn nb W B (prow nb row)) (j - 1))))]) rfl (by simp only [iI_add, iI_sub, iI_mul, iI_neg]) ?_
            refine RQ.ret rfl rfl ?_
            refine ⟨?_, _, _, rfl, (Same.tr (by repeat (first | exact Same.rf | refine Same.us rfl ?_)) (hs1.w rfl)), (Same.tr (by repeat (first | exact Same.rf | refine Same.us rfl ?_)) (ha1.w rfl))⟩
            first | (exfalso; omega) | (congr 3; unfold sAll; first | (rw [if_neg (fun z => by first | omega | exact hrk z.2)]; done) | (rw [if_pos (by first | exact ⟨by omega, by omega, hrk⟩ | exact ⟨by omega, hrk⟩ | omega)]; (repeat (first | rw [if_pos (by omega)] | rw [if_neg (by omega)])); done))
          · skip
            refine RQ.seg 1 (pc' := 59) (L' := [some (.ref 80), some (.int (iI row)), some (.int (iI j))]) (st' := [.ref 80]) (g1 := (HW sc1 ar1 tx oc rl ou tl, q)) rfl ?_
            refine RQ.seg 1 (pc' := 62) (L' := [some (.ref 80), some (.int (iI row)), some (.int (iI j))]) (st' := [.int (iI (sc1 8046))]) (g1 := (HW sc1 ar1 tx oc rl ou tl, q)) rfl ?_
            refine RQ.to (L' := [some (.ref 80), some (.int (iI row)), some (.int (iI j))]) (st' := [.int (iI (mkb nb B (prow nb row)))]) rfl (by rw [show sc1 8046 = mkb nb B (prow nb row) from hJ.2.2.1]) ?_
            refine RQ.seg 1 (pc' := 86) (L' := [some (.ref 80), some (.int (iI row)), some (.int (iI j))]) (st' := [.int (iI (mkb nb B (prow nb row)))]) (g1 := (HW sc1 ar1 tx oc rl ou tl, q)) rfl ?_
            refine RQ.ret rfl rfl ?_
            refine ⟨?_, _, _, rfl, (Same.tr (by repeat (first | exact Same.rf | refine Same.us rfl ?_)) (hs1.w rfl)), (Same.tr (by repeat (first | exact Same.rf | refine Same.us rfl ?_)) (ha1.w rfl))⟩
            first | (exfalso; omega) | (congr 3; unfold sAll; first | (rw [if_neg (fun z => by first | omega | exact hrk z.2)]; done) | (rw [if_pos (by first | exact ⟨by omega, by omega, hrk⟩ | exact ⟨by omega, hrk⟩ | omega)]; (repeat (first | rw [if_pos (by omega)] | rw [if_neg (by omega)])); done))
        · skip
          refine RQ.seg 1 (pc' := 46) (L' := [some (.ref 80), some (.int (iI row)), some (.int (iI j))]) (st' := [.ref 80]) (g1 := (HW sc1 ar1 tx oc rl ou tl, q)) rfl ?_
          refine RQ.seg 1 (pc' := 49) (L' := [some (.ref 80), some (.int (iI row)), some (.int (iI j))]) (st' := [.int (iI (sc1 8047))]) (g1 := (HW sc1 ar1 tx oc rl ou tl, q)) rfl ?_
          refine RQ.to (L' := [some (.ref 80), some (.int (iI row)), some (.int (iI j))]) (st' := [.int (iI (sT (svn nb W B (prow nb row))))]) rfl (by rw [show sc1 8047 = sT (svn nb W B (prow nb row)) from hJ1.2.1]) ?_
          refine RQ.seg 1 (pc' := 86) (L' := [some (.ref 80), some (.int (iI row)), some (.int (iI j))]) (st' := [.int (iI (sT (svn nb W B (prow nb row))))]) (g1 := (HW sc1 ar1 tx oc rl ou tl, q)) rfl ?_
          refine RQ.ret rfl rfl ?_
          refine ⟨?_, _, _, rfl, (Same.tr (by repeat (first | exact Same.rf | refine Same.us rfl ?_)) (hs1.w rfl)), (Same.tr (by repeat (first | exact Same.rf | refine Same.us rfl ?_)) (ha1.w rfl))⟩
          first | (exfalso; omega) | (congr 3; unfold sAll; first | (rw [if_neg (fun z => by first | omega | exact hrk z.2)]; done) | (rw [if_pos (by first | exact ⟨by omega, by omega, hrk⟩ | exact ⟨by omega, hrk⟩ | omega)]; (repeat (first | rw [if_pos (by omega)] | rw [if_neg (by omega)])); done))
      · skip
        refine RQ.seg 2 (pc' := 36) (L' := [some (.ref 80), some (.int (iI row)), some (.int (iI j))]) (st' := [.int (iI (-1000000))]) (g1 := (HW (usc sc 8000 0) (usc ar 96 f) tx oc rl ou tl, q)) rfl ?_
        refine RQ.ret rfl rfl ?_
        refine ⟨?_, _, _, rfl, (by repeat (first | exact Same.rf | refine Same.us rfl ?_)), (by repeat (first | exact Same.rf | refine Same.us rfl ?_))⟩
        first | (exfalso; omega) | (congr 3; unfold sAll; first | (rw [if_neg (fun z => by first | omega | exact hrk z.2)]; done) | (rw [if_pos (by first | exact ⟨by omega, by omega, hrk⟩ | exact ⟨by omega, hrk⟩ | omega)]; (repeat (first | rw [if_pos (by omega)] | rw [if_neg (by omega)])); done))
    · skip
      refine RQ.call rfl rfl (m_isIn_f (by omega) (by omega) (by omega) h4) ?_
      refine RQ.seg 2 (pc' := 36) (L' := [some (.ref 80), some (.int (iI row)), some (.int (iI j))]) (st' := [.int (iI (-1000000))]) (g1 := (HW (usc sc 8000 0) ar tx oc rl ou tl, q)) rfl ?_
      refine RQ.ret rfl rfl ?_
      refine ⟨?_, _, _, rfl, (by repeat (first | exact Same.rf | refine Same.us rfl ?_)), (by repeat (first | exact Same.rf | refine Same.us rfl ?_))⟩
      first | (exfalso; omega) | (congr 3; unfold sAll; first | (rw [if_neg (fun z => by first | omega | exact hrk z.2)]; done) | (rw [if_pos (by first | exact ⟨by omega, by omega, hrk⟩ | exact ⟨by omega, hrk⟩ | omega)]; (repeat (first | rw [if_pos (by omega)] | rw [if_neg (by omega)])); done))
theorem m_child {K : PK} {d : Nat} {sc : Nat → Int} {ar : Nat → Int → Int} {tx oc : Nat} {rl : Nat → Option Nat} {ou : Nat → Int64} {tl : List PO} {q : Nat × Nat} {row n j : Int} {nw nb : Int} {W B : Int → Int → Int} (hF : FrOK nw nb W B) (hM : FrM (sc 8024) (sc 8025) (ar 85) (ar 86) nw nb W B) (hP : PMx nw nb W B (ar 94) (ar 95)) {law : Int → Int} (hlw : ∀ j, 0 ≤ j → j < 4 → ar 87 j = law j) (hL : LwOK law) (rrow : -2147483648 ≤ row ∧ row < 2147483648) (rn : -2147483648 ≤ n ∧ n < 2147483648) (rj : -2147483648 ≤ j ∧ j < 2147483648) : CQ K (d + 4) 201 [.ref 80, .int (iI row), .int (iI n), .int (iI j)] (HW sc ar tx oc rl ou tl, q) (fun r g' => r = some (.int (iI (sChild nw nb W B row n j))) ∧ ∃ sc' ar', g' = (HW sc' ar' tx oc rl ou tl, q) ∧ Same scF sc sc' ∧ Same scA ar ar') := by
  have hn := hF.1
  have hm1 := hM.1
  have hm2 := hM.2.1
  refine CQ.of (own := 11) (n := 4) (ini := false) (rt := (some .int)) (cd := cd201) (by decide +kernel) rfl (by decide +kernel) rfl (Nat.le_of_ble_eq_true rfl) ?_
  refine RQ.seg 4 (pc' := 6) (L' := [some (.ref 80), some (.int (iI row)), some (.int (iI n)), some (.int (iI j))]) (st' := [.int (iI j)]) (g1 := (HW (usc sc 8000 0) ar tx oc rl ou tl, q)) rfl ?_
  refine RQ.seg 1 (pc' := 7) (L' := [some (.ref 80), some (.int (iI row)), some (.int (iI n)), some (.int (iI j))]) (st' := [.long ((iI j).toInt64)]) (g1 := (HW (usc sc 8000 0) ar tx oc rl ou tl, q)) rfl ?_
  refine RQ.to (L' := [some (.ref 80), some (.int (iI row)), some (.int (iI n)), some (.int (iI j))]) (st' := [.long (lL j)]) rfl (by rw [iI_64 (by omega)]) ?_
  refine RQ.seg 2 (pc' := 11) (L' := [some (.ref 80), some (.int (iI row)), some (.int (iI n)), some (.int (iI j))]) (st' := [.long (lL 2), .long (lL 0), .long (lL j)]) (g1 := (HW (usc sc 8000 0) ar tx oc rl ou tl, q)) rfl ?_
  rcases Decidable.em (0 ≤ j ∧ j ≤ 2) with h1 | h1
  · skip
    refine RQ.call rfl rfl (m_isIn_t (by omega) (by omega) (by omega) h1) ?_
    refine RQ.seg 3 (pc' := 19) (L' := [some (.ref 80), some (.int (iI row)), some (.int (iI n)), some (.int (iI j))]) (st' := [.int (iI row), .ref 80]) (g1 := (HW (usc sc 8000 0) ar tx oc rl ou tl, q)) rfl ?_
    refine RQ.callQ rfl rfl (m_isRow (sc := usc sc 8000 0) (ar := ar) hF hM hP (row := row) (by omega)) (fun rv g1 hc => ?_)
    rcases hc with ⟨hrk, rfl, rfl⟩ | ⟨hrk, rfl, f, rfl⟩
    · skip
      refine RQ.seg 2 (pc' := 30) (L' := [some (.ref 80), some (.int (iI row)), some (.int (iI n)), some (.int (iI j))]) (st' := [.ref 80]) (g1 := (HW (usc sc 8000 0) (usc ar 96 (rwp nb.toNat row (ar 96))) tx oc rl ou tl, q)) rfl ?_
      have hmy := prow_ok hn.2.2.1 hrk.2.2
      refine RQ.callQ rfl rfl (m_judgeA (sc := usc sc 8000 0) (ar := usc ar 96 (rwp nb.toNat row (ar 96))) (P := (prow nb row)) hF hM (fun b h0 h1 => prow_c _ hn.2.2.1 h0 h1) hmy hlw hL) (fun rv g1 hc => ?_)
      obtain ⟨rfl, sc1, ar1, rfl, hJ, hs1, ha1⟩ := hc
      have hJ1 := hJ.2.1
      have hTr := (svn_ok hF hmy).2.1
      have hlm := lsm_nn (svn_ok hF hmy)
      refine RQ.seg 1 (pc' := 34) (L' := [some (.ref 80), some (.int (iI row)), some (.int (iI n)), some (.int (iI j))]) (st' := [.int (iI n)]) (g1 := (HW sc1 ar1 tx oc rl ou tl, q)) rfl ?_
      refine RQ.seg 1 (pc' := 35) (L' := [some (.ref 80), some (.int (iI row)), some (.int (iI n)), some (.int (iI j))]) (st' := [.long ((iI n).toInt64)]) (g1 := (HW sc1 ar1 tx oc rl ou tl, q)) rfl ?_
      refine RQ.to (L' := [some (.ref 80), some (.int (iI row)), some (.int (iI n)), some (.int (iI j))]) (st' := [.long (lL n)]) rfl (by rw [iI_64 (by omega)]) ?_
      refine RQ.seg 2 (pc' := 37) (L' := [some (.ref 80), some (.int (iI row)), some (.int (iI n)), some (.int (iI j))]) (st' := [.ref 80, .long (lL 0), .long (lL n)]) (g1 := (HW sc1 ar1 tx oc rl ou tl, q)) rfl ?_
      refine RQ.seg 1 (pc' := 40) (L' := [some (.ref 80), some (.int (iI row)), some (.int (iI n)), some (.int (iI j))]) (st' := [.int (iI (sc1 8047)), .long (lL 0), .long (lL n)]) (g1 := (HW sc1 ar1 tx oc rl ou tl, q)) rfl ?_
      refine RQ.to (L' := [some (.ref 80), some (.int (iI row)), some (.int (iI n)), some (.int (iI j))]) (st' := [.int (iI (sT (svn nb W B (prow nb row)))), .long (lL 0), .long (lL n)]) rfl (by rw [show sc1 8047 = sT (svn nb W B (prow nb row)) from hJ1.2.1]) ?_
      refine RQ.seg 2 (pc' := 42) (L' := [some (.ref 80), some (.int (iI row)), some (.int (iI n)), some (.int (iI j))]) (st' := [.int ((iI (sT (svn nb W B (prow nb row)))) - (iI 1)), .long (lL 0), .long (lL n)]) (g1 := (HW sc1 ar1 tx oc rl ou tl, q)) rfl ?_
      refine RQ.to (L' := [some (.ref 80), some (.int (iI row)), some (.int (iI n)), some (.int (iI j))]) (st' := [.int (iI (sT (svn nb W B (prow nb row)) - 1)), .long (lL 0), .long (lL n)]) rfl (by simp only [iI_add, iI_sub, iI_mul, iI_neg]) ?_
      refine RQ.seg 1 (pc' := 43) (L' := [some (.ref 80), some (.int (iI row)), some (.int (iI n)), some (.int (iI j))]) (st' := [.long ((iI (sT (svn nb W B (prow nb row)) - 1)).toInt64), .long (lL 0), .long (lL n)]) (g1 := (HW sc1 ar1 tx oc rl ou tl, q)) rfl ?_
      refine RQ.to (L' := [some (.ref 80), some (.int (iI row)), some (.int (iI n)), some (.int (iI j))]) (st' := [.long (lL (sT (svn nb W B (prow nb row)) - 1)), .long (lL 0), .long (lL n)]) rfl (by rw [iI_64 (by omega)]) ?_
      rcases Decidable.em (0 ≤ n ∧ n ≤ sT (svn nb W B (prow nb row)) - 1) with h2 | h2
      · skip
        refine RQ.call rfl rfl (m_isIn_t (by omega) (by omega) (by omega) h2) ?_
        refine RQ.seg 2 (pc' := 54) (L' := [some (.ref 80), some (.int (iI row)), some (.int (iI n)), some (.int (iI j))]) (st' := [.int (iI j)]) (g1 := (HW sc1 ar1 tx oc rl ou tl, q)) rfl ?_
        refine RQ.if1 (a := j) rfl rfl rfl (by omega) (fun (h3 : j ≠ 0) => ?_) (fun (h3 : ¬ j ≠ 0) => ?_)
        · skip
          refine RQ.seg 2 (pc' := 68) (L' := [some (.ref 80), some (.int (iI row)), some (.int (iI n)), some (.int (iI j))]) (st' := [.int (iI 1), .int (iI j)]) (g1 := (HW sc1 ar1 tx oc rl ou tl, q)) rfl ?_
          refine RQ.if2 (a := j) (b := 1) rfl rfl rfl rfl (by omega) (by omega) (fun (h4 : j ≠ 1) => ?_) (fun (h4 : ¬ j ≠ 1) => ?_)
          · skip
            refine RQ.seg 3 (pc' := 85) (L' := [some (.ref 80), some (.int (iI row)), some (.int (iI n)), some (.int (iI j))]) (st' := [.int (iI n), .ref 106]) (g1 := (HW sc1 ar1 tx oc rl ou tl, q)) rfl ?_
            refine RQ.ialdv (z := n) (v := (sC (svn nb W B (prow nb row)) n)) rfl rfl rfl (by omega) (by decide) (hJ1.2.2.2.2 n (by omega) (by rw [hJ1.2.1]; omega)).2.2 ?_
            refine RQ.ret rfl rfl ?_
            refine ⟨?_, _, _, rfl, (Same.tr (by repeat (first | exact Same.rf | refine Same.us rfl ?_)) (hs1.w rfl)), (Same.tr (by repeat (first | exact Same.rf | refine Same.us rfl ?_)) (ha1.w rfl))⟩
            first | (exfalso; omega) | (congr 3; unfold sChild; first | (rw [if_neg (fun z => by first | omega | exact hrk z.2.1)]; done) | (rw [if_pos (⟨by omega, hrk, by omega⟩)]; (repeat (first | rw [if_pos (by omega)] | rw [if_neg (by omega)])); done))
          · skip
            refine RQ.seg 3 (pc' := 76) (L' := [some (.ref 80), some (.int (iI row)), some (.int (iI n)), some (.int (iI j))]) (st' := [.int (iI n), .ref 105]) (g1 := (HW sc1 ar1 tx oc rl ou tl, q)) rfl ?_
            refine RQ.ialdv (z := n) (v := (sB (svn nb W B (prow nb row)) n)) rfl rfl rfl (by omega) (by decide) (hJ1.2.2.2.2 n (by omega) (by rw [hJ1.2.1]; omega)).2.1 ?_
            refine RQ.seg 1 (pc' := 86) (L' := [some (.ref 80), some (.int (iI row)), some (.int (iI n)), some (.int (iI j))]) (st' := [.int (iI (sB (svn nb W B (prow nb row)) n))]) (g1 := (HW sc1 ar1 tx oc rl ou tl, q)) rfl ?_
            refine RQ.ret rfl rfl ?_
            refine ⟨?_, _, _, rfl, (Same.tr (by repeat (first | exact Same.rf | refine Same.us rfl ?_)) (hs1.w rfl)), (Same.tr (by repeat (first | exact Same.rf | refine Same.us rfl ?_)) (ha1.w rfl))⟩
            first | (exfalso; omega) | (congr 3; unfold sChild; first | (rw [if_neg (fun z => by first | omega | exact hrk z.2.1)]; done) | (rw [if_pos (⟨by omega, hrk, by omega⟩)]; (repeat (first | rw [if_pos (by omega)] | rw [if_neg (by omega)])); done))
        · skip
          refine RQ.seg 3 (pc' := 62) (L' := [some (.ref 80), some (.int (iI row)), some (.int (iI n)), some (.int (iI j))]) (st' := [.int (iI n), .ref 104]) (g1 := (HW sc1 ar1 tx oc rl ou tl, q)) rfl ?_
          refine RQ.ialdv (z := n) (v := (sA (svn nb W B (prow nb row)) n)) rfl rfl rfl (by omega) (by decide) (hJ1.2.2.2.2 n (by omega) (by rw [hJ1.2.1]; omega)).1 ?_
          refine RQ.seg 1 (pc' := 86) (L' := [some (.ref 80), some (.int (iI row)), some (.int (iI n)), some (.int (iI j))]) (st' := [.int (iI (sA (svn nb W B (prow nb row)) n))]) (g1 := (HW sc1 ar1 tx oc rl ou tl, q)) rfl ?_
          refine RQ.ret rfl rfl ?_
          refine ⟨?_, _, _, rfl, (Same.tr (by repeat (first | exact Same.rf | refine Same.us rfl ?_)) (hs1.w rfl)), (Same.tr (by repeat (first | exact Same.rf | refine Same.us rfl ?_)) (ha1.w rfl))⟩
          first | (exfalso; omega) | (congr 3; unfold sChild; first | (rw [if_neg (fun z => by first | omega | exact hrk z.2.1)]; done) | (rw [if_pos (⟨by omega, hrk, by omega⟩)]; (repeat (first | rw [if_pos (by omega)] | rw [if_neg (by omega)])); done))
      · skip
        refine RQ.call rfl rfl (m_isIn_f (by omega) (by omega) (by omega) h2) ?_
        refine RQ.seg 2 (pc' := 52) (L' := [some (.ref 80), some (.int (iI row)), some (.int (iI n)), some (.int (iI j))]) (st' := [.int (iI (-1000000))]) (g1 := (HW sc1 ar1 tx oc rl ou tl, q)) rfl ?_
        refine RQ.ret rfl rfl ?_
        refine ⟨?_, _, _, rfl, (Same.tr (by repeat (first | exact Same.rf | refine Same.us rfl ?_)) (hs1.w rfl)), (Same.tr (by repeat (first | exact Same.rf | refine Same.us rfl ?_)) (ha1.w rfl))⟩
        first | (exfalso; omega) | (congr 3; unfold sChild; first | (rw [if_neg (fun z => by first | omega | exact hrk z.2.1)]; done) | (rw [if_pos (⟨by omega, hrk, by omega⟩)]; (repeat (first | rw [if_pos (by omega)] | rw [if_neg (by omega)])); done))
    · skip
      refine RQ.seg 2 (pc' := 28) (L' := [some (.ref 80), some (.int (iI row)), some (.int (iI n)), some (.int (iI j))]) (st' := [.int (iI (-1000000))]) (g1 := (HW (usc sc 8000 0) (usc ar 96 f) tx oc rl ou tl, q)) rfl ?_
      refine RQ.ret rfl rfl ?_
      refine ⟨?_, _, _, rfl, (by repeat (first | exact Same.rf | refine Same.us rfl ?_)), (by repeat (first | exact Same.rf | refine Same.us rfl ?_))⟩
      first | (exfalso; omega) | (congr 3; unfold sChild; first | (rw [if_neg (fun z => by first | omega | exact hrk z.2.1)]; done) | (rw [if_pos (⟨by omega, hrk, by omega⟩)]; (repeat (first | rw [if_pos (by omega)] | rw [if_neg (by omega)])); done))
  · skip
    refine RQ.call rfl rfl (m_isIn_f (by omega) (by omega) (by omega) h1) ?_
    refine RQ.seg 2 (pc' := 28) (L' := [some (.ref 80), some (.int (iI row)), some (.int (iI n)), some (.int (iI j))]) (st' := [.int (iI (-1000000))]) (g1 := (HW (usc sc 8000 0) ar tx oc rl ou tl, q)) rfl ?_
    refine RQ.ret rfl rfl ?_
    refine ⟨?_, _, _, rfl, (by repeat (first | exact Same.rf | refine Same.us rfl ?_)), (by repeat (first | exact Same.rf | refine Same.us rfl ?_))⟩
    first | (exfalso; omega) | (congr 3; unfold sChild; first | (rw [if_neg (fun z => by first | omega | exact hrk z.2.1)]; done) | (rw [if_pos (⟨by omega, hrk, by omega⟩)]; (repeat (first | rw [if_pos (by omega)] | rw [if_neg (by omega)])); done))
theorem x_isBack_t {K : PK} {d : Nat} {sc : Nat → Int} {ar : Nat → Int → Int} {tx oc : Nat} {rl : Nat → Option Nat} {ou : Nat → Int64} {tl : List PO} {q : Nat × Nat} {b : Int} {nw nb : Int} {W B : Int → Int → Int} (hF : FrOK nw nb W B) (hX : FrX (sc 303) (sc 304) (ar 5) (ar 6) (ar 7) (ar 8) (ar 10) (ar 11) (ar 12) nw nb W B) {P : Int → Int} (hmy : PtOK nw nb W B P) (hp : PlyP nw nb W B P sc ar) (hb : 0 ≤ b ∧ b < nb) (hP : bkv nb B P b = 1) : CallR K (d + 1) 30 [.ref 51, .int (iI b)] (HW sc ar tx oc rl ou tl, q) (some (.int (iI 1))) (HW sc ar tx oc rl ou tl, q) := by
  apply CQ.x
  have hn := hF.1
  have hm1 := hX.1
  have hm2 := hX.2.1
  obtain ⟨y, hp1, hp2, hp3, hwi, hsh, hcl⟩ := hp
  have hwr := xwi_r hmy hn.1 hb.1
  have e1 := xwi_f (nb := nb) (B := B) (P := P) (j := b) (fun z => by omega)
  refine CQ.of (own := 4) (n := 2) (ini := false) (rt := (some .boolean)) (cd := cd30) (by decide +kernel) rfl (by decide +kernel) rfl (Nat.le_of_ble_eq_true rfl) ?_
  refine RQ.seg 3 (pc' := 5) (L' := [some (.ref 51), some (.int (iI b))]) (st' := [.int (iI b), .ref 53]) (g1 := (HW sc ar tx oc rl ou tl, q)) rfl ?_
  refine RQ.ialdv (z := b) (v := (xwi nb B P b)) rfl rfl rfl (by omega) (by decide) (hwi b (by omega) (by omega)) ?_
  refine RQ.seg 1 (pc' := 7) (L' := [some (.ref 51), some (.int (iI b))]) (st' := [.int (iI (-1)), .int (iI (xwi nb B P b))]) (g1 := (HW sc ar tx oc rl ou tl, q)) rfl ?_
  refine RQ.if2 (a := (xwi nb B P b)) (b := (-1)) rfl rfl rfl rfl (by omega) (by omega) (fun (q : xwi nb B P b ≠ (-1)) => absurd q (show ¬ xwi nb B P b ≠ (-1) from by omega)) (fun _ => ?_)
  refine RQ.seg 2 (pc' := 15) (L' := [some (.ref 51), some (.int (iI b))]) (st' := [.int (iI 1)]) (g1 := (HW sc ar tx oc rl ou tl, q)) rfl ?_
  refine RQ.ret rfl rfl ?_
  exact ⟨rfl, rfl⟩
theorem x_isBack_f {K : PK} {d : Nat} {sc : Nat → Int} {ar : Nat → Int → Int} {tx oc : Nat} {rl : Nat → Option Nat} {ou : Nat → Int64} {tl : List PO} {q : Nat × Nat} {b : Int} {nw nb : Int} {W B : Int → Int → Int} (hF : FrOK nw nb W B) (hX : FrX (sc 303) (sc 304) (ar 5) (ar 6) (ar 7) (ar 8) (ar 10) (ar 11) (ar 12) nw nb W B) {P : Int → Int} (hmy : PtOK nw nb W B P) (hp : PlyP nw nb W B P sc ar) (hb : 0 ≤ b ∧ b < nb) (hP : bkv nb B P b = 0) : CallR K (d + 1) 30 [.ref 51, .int (iI b)] (HW sc ar tx oc rl ou tl, q) (some (.int (iI 0))) (HW sc ar tx oc rl ou tl, q) := by
  apply CQ.x
  have hn := hF.1
  have hm1 := hX.1
  have hm2 := hX.2.1
  obtain ⟨y, hp1, hp2, hp3, hwi, hsh, hcl⟩ := hp
  have hwr := xwi_r hmy hn.1 hb.1
  have e1 := xwi_t hb.2 hP
  have e2 := hmy.w hb.1 hb.2 hP
  refine CQ.of (own := 4) (n := 2) (ini := false) (rt := (some .boolean)) (cd := cd30) (by decide +kernel) rfl (by decide +kernel) rfl (Nat.le_of_ble_eq_true rfl) ?_
  refine RQ.seg 3 (pc' := 5) (L' := [some (.ref 51), some (.int (iI b))]) (st' := [.int (iI b), .ref 53]) (g1 := (HW sc ar tx oc rl ou tl, q)) rfl ?_
  refine RQ.ialdv (z := b) (v := (xwi nb B P b)) rfl rfl rfl (by omega) (by decide) (hwi b (by omega) (by omega)) ?_
  refine RQ.seg 1 (pc' := 7) (L' := [some (.ref 51), some (.int (iI b))]) (st' := [.int (iI (-1)), .int (iI (xwi nb B P b))]) (g1 := (HW sc ar tx oc rl ou tl, q)) rfl ?_
  refine RQ.if2 (a := (xwi nb B P b)) (b := (-1)) rfl rfl rfl rfl (by omega) (by omega) (fun _ => ?_) (fun (q : ¬ xwi nb B P b ≠ (-1)) => absurd (show xwi nb B P b ≠ (-1) from by omega) q)
  refine RQ.seg 1 (pc' := 15) (L' := [some (.ref 51), some (.int (iI b))]) (st' := [.int (iI 0)]) (g1 := (HW sc ar tx oc rl ou tl, q)) rfl ?_
  refine RQ.ret rfl rfl ?_
  exact ⟨rfl, rfl⟩
theorem x_gainOf {K : PK} {d : Nat} {sc : Nat → Int} {ar : Nat → Int → Int} {tx oc : Nat} {rl : Nat → Option Nat} {ou : Nat → Int64} {tl : List PO} {q : Nat × Nat} {b : Int} {nw nb : Int} {W B : Int → Int → Int} (hF : FrOK nw nb W B) (hX : FrX (sc 303) (sc 304) (ar 5) (ar 6) (ar 7) (ar 8) (ar 10) (ar 11) (ar 12) nw nb W B) {P : Int → Int} (hmy : PtOK nw nb W B P) (hp : PlyP nw nb W B P sc ar) {law : Int → Int} (hlw : ∀ j, 0 ≤ j → j < 4 → ar 32 j = law j) (hL : LwOK law) (hb : 0 ≤ b ∧ b < nb) : CallR K (d + 5) 143 [.ref 0, .int (iI b)] (HW sc ar tx oc rl ou tl, q) (some (.int (iI (gnr nw nb W B law P b)))) (HW sc ar tx oc rl ou tl, q) := by
  apply CQ.x
  have hn := hF.1
  have hm1 := hX.1
  have hm2 := hX.2.1
  refine CQ.of (own := 10) (n := 2) (ini := false) (rt := (some .int)) (cd := cd143) (by decide +kernel) rfl (by decide +kernel) rfl (Nat.le_of_ble_eq_true rfl) ?_
  refine RQ.seg 2 (pc' := 4) (L' := [some (.ref 0), some (.int (iI b))]) (st' := [.ref 51]) (g1 := (HW sc ar tx oc rl ou tl, q)) rfl ?_
  obtain ⟨y, hS, hJ, hE, hc⟩ := x_outA (K := K) (d := d + 2) (tx := tx) (oc := oc) (rl := rl) (ou := ou) (tl := tl) (q := q) hF hX hmy hp
  have hor := ocv_r hF hmy hS hJ
  have hLL := hL
  unfold LwOK at hLL
  refine RQ.call rfl rfl hc ?_
  refine RQ.seg 8 (pc' := 23) (L' := [some (.ref 0), some (.int (iI b))]) (st' := [.int (iI 3), .ref 32, .ref 32, .int (iI b), .int (iI (ocv nb W B P (Sx sc ar y)))]) (g1 := (HW sc ar tx oc rl ou tl, q)) rfl ?_
  refine RQ.ialdv (z := 3) (v := (law 3)) rfl rfl rfl (by omega) (by decide) (hlw 3 (by omega) (by omega)) ?_
  refine RQ.call rfl rfl (x_gain (o := ocv nb W B P (Sx sc ar y)) (b := b) (by omega) (by omega) hlw hL (by omega)) ?_
  refine RQ.ret rfl rfl ?_
  refine ⟨?_, rfl⟩
  have e0 : pkm (ocv nb W B P (Sx sc ar y)) 0 0 = ocv nb W B P (Sx sc ar y) := by unfold pkm; omega
  have e1 := gnx_gnv (r := 0) (e := 0) hF hmy hS hJ hb (by omega) (by omega) hL
  rw [e0] at e1
  rw [e1, gnv_c hF hE hb law]; rfl
theorem x_playRow {K : PK} {d : Nat} {sc : Nat → Int} {ar : Nat → Int → Int} {tx oc : Nat} {rl : Nat → Option Nat} {ou : Nat → Int64} {tl : List PO} {q : Nat × Nat} {row : Int} {nw nb : Int} {W B : Int → Int → Int} (hF : FrOK nw nb W B) (hX : FrX (sc 303) (sc 304) (ar 5) (ar 6) (ar 7) (ar 8) (ar 10) (ar 11) (ar 12) nw nb W B) (rrow : -2147483648 ≤ row ∧ row < 2147483648) : CQ K (d + 4) 142 [.ref 0, .int (iI row)] (HW sc ar tx oc rl ou tl, q) (fun r g' => (rok nw nb W B row ∧ r = some (.int (iI 1)) ∧ ∃ sc' ar', g' = (HW sc' ar' tx oc rl ou tl, q) ∧ PlyP nw nb W B (prow nb row) sc' ar' ∧ Same scF sc sc' ∧ Same scA ar ar') ∨ (¬ rok nw nb W B row ∧ r = some (.int (iI 0)) ∧ ∃ f, g' = (HW sc (usc ar 78 f) tx oc rl ou tl, q))) := by
  have hn := hF.1
  have hm1 := hX.1
  have hm2 := hX.2.1
  refine CQ.of (own := 10) (n := 2) (ini := false) (rt := (some .boolean)) (cd := cd142) (by decide +kernel) rfl (by decide +kernel) rfl (Nat.le_of_ble_eq_true rfl) ?_
  refine RQ.seg 2 (pc' := 2) (L' := [some (.ref 0), some (.int (iI row))]) (st' := [.int (iI row), .ref 0]) (g1 := (HW sc ar tx oc rl ou tl, q)) rfl ?_
  refine RQ.callQ rfl rfl ((x_splitRow (d := 0) (sc := sc) (ar := ar) hF hX (row := row) (by omega)).up (by omega)) (fun rv g1 hc => ?_)
  rcases hc with ⟨hrk, rfl, rfl⟩ | ⟨hrk, rfl, f, rfl⟩
  · skip
    refine RQ.seg 5 (pc' := 18) (L' := [some (.ref 0), some (.int (iI row))]) (st' := [.ref 78, .ref 51]) (g1 := (HW sc (usc ar 78 (rwp nb.toNat row (ar 78))) tx oc rl ou tl, q)) rfl ?_
    have hmy := prow_ok hn.2.2.1 hrk.2.2
    refine RQ.callQ rfl rfl (x_run78 (sc := sc) (ar := usc ar 78 (rwp nb.toNat row (ar 78))) (P := (prow nb row)) hF hX (fun b h0 h1 => prow_c _ hn.2.2.1 h0 h1) hmy) (fun rv g1 hc => ?_)
    obtain ⟨rfl, sc1, ar1, rfl, hp, hs1, ha1⟩ := hc
    refine RQ.seg 1 (pc' := 22) (L' := [some (.ref 0), some (.int (iI row))]) (st' := [.int (iI 1)]) (g1 := (HW sc1 ar1 tx oc rl ou tl, q)) rfl ?_
    refine RQ.ret rfl rfl ?_
    exact Or.inl ⟨hrk, rfl, sc1, ar1, rfl, hp, (Same.tr (by repeat (first | exact Same.rf | refine Same.us rfl ?_)) (hs1.w rfl)), (Same.tr (by repeat (first | exact Same.rf | refine Same.us rfl ?_)) (ha1.w rfl))⟩
  · skip
    refine RQ.seg 2 (pc' := 9) (L' := [some (.ref 0), some (.int (iI row))]) (st' := [.int (iI 0)]) (g1 := (HW sc (usc ar 78 f) tx oc rl ou tl, q)) rfl ?_
    refine RQ.ret rfl rfl ?_
    exact Or.inr ⟨hrk, rfl, f, rfl⟩
theorem x_isWiW_t {K : PK} {d : Nat} {sc : Nat → Int} {ar : Nat → Int → Int} {tx oc : Nat} {rl : Nat → Option Nat} {ou : Nat → Int64} {tl : List PO} {q : Nat × Nat} {nw nb : Int} {W B : Int → Int → Int} (hF : FrOK nw nb W B) (hX : FrX (sc 303) (sc 304) (ar 5) (ar 6) (ar 7) (ar 8) (ar 10) (ar 11) (ar 12) nw nb W B) {b : Int} (rb : -2147483649 ≤ b ∧ b < 2147483648) (hP : 0 ≤ b ∧ b < nw) : CallR K (d + 1) 140 [.ref 0, .int (iI b)] (HW sc ar tx oc rl ou tl, q) (some (.int (iI 1))) (HW sc ar tx oc rl ou tl, q) := by
  by_cases e : b = -2147483649
  · subst e
    rw [show iI (-2147483649) = iI 2147483647 by decide]
    have hn := hF.1
    exact absurd hP.1 (by omega)
  · exact x_isWiN_t (by omega) hX hF hP
theorem x_isWiW_f {K : PK} {d : Nat} {sc : Nat → Int} {ar : Nat → Int → Int} {tx oc : Nat} {rl : Nat → Option Nat} {ou : Nat → Int64} {tl : List PO} {q : Nat × Nat} {nw nb : Int} {W B : Int → Int → Int} (hF : FrOK nw nb W B) (hX : FrX (sc 303) (sc 304) (ar 5) (ar 6) (ar 7) (ar 8) (ar 10) (ar 11) (ar 12) nw nb W B) {b : Int} (rb : -2147483649 ≤ b ∧ b < 2147483648) (hP : ¬ (0 ≤ b ∧ b < nw)) : CallR K (d + 1) 140 [.ref 0, .int (iI b)] (HW sc ar tx oc rl ou tl, q) (some (.int (iI 0))) (HW sc ar tx oc rl ou tl, q) := by
  by_cases e : b = -2147483649
  · subst e
    rw [show iI (-2147483649) = iI 2147483647 by decide]
    have hn := hF.1
    exact x_isWiN_f (by omega) hX hF (by omega)
  · exact x_isWiN_f (by omega) hX hF hP
theorem x_bks_l {K : PK} {d : Nat} {sc : Nat → Int} {ar : Nat → Int → Int} {tx oc : Nat} {rl : Nat → Option Nat} {ou : Nat → Int64} {tl : List PO} {q : Nat × Nat} {Q : Option Value → PG → Prop} {nw nb : Int} {W B : Int → Int → Int} (hF : FrOK nw nb W B) (hX : FrX (sc 303) (sc 304) (ar 5) (ar 6) (ar 7) (ar 8) (ar 10) (ar 11) (ar 12) nw nb W B) {P : Int → Int} (hmy : PtOK nw nb W B P) (hwi : ∀ j, 0 ≤ j → j < 3 → ar 53 j = xwi nb B P j) : ∀ (m n : Nat) (hm : (n : Int) + m = nb) (hk : Q (some (.int (iI (mkb nb B P)))) (HW sc ar tx oc rl ou tl, q)), RQ K (d + 0) 4 false (some .int) cd31 4 [some (.ref 51), some (.int (iI (mkn nb B P n))), some (.int (iI (n : Int)))] [] (HW sc ar tx oc rl ou tl, q) Q
  | 0, n, hm, hk => by
    have hn := hF.1
    have hm1 := hX.1
    have hm2 := hX.2.1
    have hmr := mkn_r nb B P (n := n) (by omega)
    refine RQ.seg 4 (pc' := 12) (L' := [some (.ref 51), some (.int (iI (mkn nb B P n))), some (.int (iI (n : Int)))]) (st' := [.int (iI (sc 304)), .int (iI (n : Int))]) (g1 := (HW sc ar tx oc rl ou tl, q)) rfl ?_
    refine RQ.if2 (a := (n : Int)) (b := (sc 304)) rfl rfl rfl rfl (by omega) (by omega) (fun _ => ?_) (fun (q : ¬ sc 304 ≤ (n : Int)) => absurd (show sc 304 ≤ (n : Int) from by omega) q)
    refine RQ.seg 1 (pc' := 38) (L' := [some (.ref 51), some (.int (iI (mkn nb B P n))), some (.int (iI (n : Int)))]) (st' := [.int (iI (mkn nb B P n))]) (g1 := (HW sc ar tx oc rl ou tl, q)) rfl ?_
    refine RQ.ret rfl rfl ?_
    obtain rfl : nb = (n : Int) := by omega
    exact hk
  | m + 1, n, hm, hk => by
    have hn := hF.1
    have hm1 := hX.1
    have hm2 := hX.2.1
    have hmr := mkn_r nb B P (n := n) (by omega)
    have hwr := xwi_r hmy hn.1 (j := (n : Int)) (by omega)
    have hb2 := bkv_r nb B P (n : Int)
    refine RQ.seg 4 (pc' := 12) (L' := [some (.ref 51), some (.int (iI (mkn nb B P n))), some (.int (iI (n : Int)))]) (st' := [.int (iI (sc 304)), .int (iI (n : Int))]) (g1 := (HW sc ar tx oc rl ou tl, q)) rfl ?_
    refine RQ.if2 (a := (n : Int)) (b := (sc 304)) rfl rfl rfl rfl (by omega) (by omega) (fun (q : sc 304 ≤ (n : Int)) => absurd q (show ¬ sc 304 ≤ (n : Int) from by omega)) (fun _ => ?_)
    refine RQ.seg 3 (pc' := 20) (L' := [some (.ref 51), some (.int (iI (mkn nb B P n))), some (.int (iI (n : Int)))]) (st' := [.int (iI (n : Int)), .ref 53]) (g1 := (HW sc ar tx oc rl ou tl, q)) rfl ?_
    refine RQ.ialdv (z := (n : Int)) (v := (xwi nb B P (n : Int))) rfl rfl rfl (by omega) (by decide) (hwi (n : Int) (by omega) (by omega)) ?_
    refine RQ.seg 1 (pc' := 22) (L' := [some (.ref 51), some (.int (iI (mkn nb B P n))), some (.int (iI (n : Int)))]) (st' := [.int (iI (-1)), .int (iI (xwi nb B P (n : Int)))]) (g1 := (HW sc ar tx oc rl ou tl, q)) rfl ?_
    refine RQ.if2 (a := (xwi nb B P (n : Int))) (b := (-1)) rfl rfl rfl rfl (by omega) (by omega) (fun (h2 : xwi nb B P (n : Int) ≠ (-1)) => ?_) (fun (h2 : ¬ xwi nb B P (n : Int) ≠ (-1)) => ?_)
    · skip
      obtain ⟨qa, ka, ew⟩ := hwr.2.2.2.2 h2
      refine RQ.seg 2 (pc' := 4) (L' := [some (.ref 51), some (.int (iI (mkn nb B P n))), some (.int ((iI (n : Int)) + (iI 1)))]) (st' := []) (g1 := (HW sc ar tx oc rl ou tl, q)) rfl ?_
      refine RQ.to (L' := [some (.ref 51), some (.int (iI (mkn nb B P n))), some (.int (iI ((n : Int) + 1)))]) (st' := []) (by simp only [iI_add, iI_sub, iI_mul, iI_neg]) rfl ?_
      have e5 : mkn nb B P n = mkn nb B P (n + 1) := by rw [mkn]; first | rw [if_pos (by omega)] | rw [if_neg (by omega)]
      rw [e5]
      exact x_bks_l hF hX hmy hwi m (n + 1) (by omega) hk
    · skip
      have hb3 : bkv nb B P (n : Int) = 1 := by rcases (show bkv nb B P (n : Int) = 0 ∨ bkv nb B P (n : Int) = 1 by omega) with z | z; (have e6 := xwi_t (nb := nb) (B := B) (P := P) (j := (n : Int)) (by omega) z; have e7 := hmy.w (b := (n : Int)) (by omega) (by omega) z; omega); exact z
      refine RQ.seg 3 (pc' := 28) (L' := [some (.ref 51), some (.int (iI (mkn nb B P n))), some (.int (iI (n : Int)))]) (st' := [.int (iI (n : Int)), .int (iI 1), .int (iI (mkn nb B P n))]) (g1 := (HW sc ar tx oc rl ou tl, q)) rfl ?_
      refine RQ.ishl1 (b := (n : Int)) rfl rfl rfl (by omega) ?_
      refine RQ.ior (a := (mkn nb B P n)) (b := ((n : Int))) rfl rfl rfl (by omega) (by omega) ?_
      refine RQ.seg 3 (pc' := 4) (L' := [some (.ref 51), some (.int (iI (orz (mkn nb B P n) ((n : Int))))), some (.int ((iI (n : Int)) + (iI 1)))]) (st' := []) (g1 := (HW sc ar tx oc rl ou tl, q)) rfl ?_
      refine RQ.to (L' := [some (.ref 51), some (.int (iI (orz (mkn nb B P n) ((n : Int))))), some (.int (iI ((n : Int) + 1)))]) (st' := []) (by simp only [iI_add, iI_sub, iI_mul, iI_neg]) rfl ?_
      have e5 : orz (mkn nb B P n) ((n : Int)) = mkn nb B P (n + 1) := by rw [mkn]; first | rw [if_pos (by omega)] | rw [if_neg (by omega)]
      rw [e5]
      exact x_bks_l hF hX hmy hwi m (n + 1) (by omega) hk
theorem x_backs {K : PK} {d : Nat} {sc : Nat → Int} {ar : Nat → Int → Int} {tx oc : Nat} {rl : Nat → Option Nat} {ou : Nat → Int64} {tl : List PO} {q : Nat × Nat} {nw nb : Int} {W B : Int → Int → Int} (hF : FrOK nw nb W B) (hX : FrX (sc 303) (sc 304) (ar 5) (ar 6) (ar 7) (ar 8) (ar 10) (ar 11) (ar 12) nw nb W B) {P : Int → Int} (hmy : PtOK nw nb W B P) (hp : PlyP nw nb W B P sc ar) : CallR K (d + 1) 31 [.ref 51] (HW sc ar tx oc rl ou tl, q) (some (.int (iI (mkb nb B P)))) (HW sc ar tx oc rl ou tl, q) := by
  apply CQ.x
  have hn := hF.1
  have hm1 := hX.1
  have hm2 := hX.2.1
  obtain ⟨y, hp1, hp2, hp3, hwi, hsh, hcl⟩ := hp
  refine CQ.of (own := 4) (n := 3) (ini := false) (rt := (some .int)) (cd := cd31) (by decide +kernel) rfl (by decide +kernel) rfl (Nat.le_of_ble_eq_true rfl) ?_
  refine RQ.seg 4 (pc' := 4) (L' := [some (.ref 51), some (.int (iI 0)), some (.int (iI 0))]) (st' := []) (g1 := (HW sc ar tx oc rl ou tl, q)) rfl ?_
  exact x_bks_l hF hX hmy hwi nb.toNat 0 (by omega) ⟨rfl, rfl⟩
theorem x_savedAt {K : PK} {d : Nat} {sc : Nat → Int} {ar : Nat → Int → Int} {tx oc : Nat} {rl : Nat → Option Nat} {ou : Nat → Int64} {tl : List PO} {q : Nat × Nat} {w : Int} {nw nb : Int} {W B : Int → Int → Int} (hF : FrOK nw nb W B) (hX : FrX (sc 303) (sc 304) (ar 5) (ar 6) (ar 7) (ar 8) (ar 10) (ar 11) (ar 12) nw nb W B) {P : Int → Int} (hmy : PtOK nw nb W B P) (hp : PlyP nw nb W B P sc ar) (hw : 0 ≤ w ∧ w < nw) : CallR K (d + 1) 32 [.ref 51, .int (iI w)] (HW sc ar tx oc rl ou tl, q) (some (.int (iI (W w 2 - sL (svn nb W B P) w)))) (HW sc ar tx oc rl ou tl, q) := by
  apply CQ.x
  have hn := hF.1
  have hm1 := hX.1
  have hm2 := hX.2.1
  obtain ⟨y, hp1, hp2, hp3, hwi, hsh, hcl⟩ := hp
  refine CQ.of (own := 4) (n := 2) (ini := false) (rt := (some .int)) (cd := cd32) (by decide +kernel) rfl (by decide +kernel) rfl (Nat.le_of_ble_eq_true rfl) ?_
  refine RQ.seg 4 (pc' := 8) (L' := [some (.ref 51), some (.int (iI w))]) (st' := [.int (iI w), .ref 4]) (g1 := (HW sc ar tx oc rl ou tl, q)) rfl ?_
  refine RQ.aald (z := w) rfl rfl rfl (by omega) (by decide) ?_
  refine RQ.seg 1 (pc' := 10) (L' := [some (.ref 51), some (.int (iI w))]) (st' := [.int (iI 2), .ref (5 + w.toNat)]) (g1 := (HW sc ar tx oc rl ou tl, q)) rfl ?_
  have hf1 := hF.2.1 w (by omega) (by omega)
  refine RQ.ialdv (z := 2) (v := (W w 2)) rfl rfl (HW_r4 (by omega)) (by omega) (by decide) (frx_w (j := 2) hX (by omega) (by omega) (by omega) (by omega) hF.1.2.1) ?_
  refine RQ.seg 3 (pc' := 16) (L' := [some (.ref 51), some (.int (iI w))]) (st' := [.int (iI w), .ref 55, .int (iI (W w 2))]) (g1 := (HW sc ar tx oc rl ou tl, q)) rfl ?_
  refine RQ.ialdv (z := w) (v := (sL (svn nb W B P) w)) rfl rfl rfl (by omega) (by decide) (hp3.1 w (by omega) (by omega)).1 ?_
  refine RQ.seg 1 (pc' := 18) (L' := [some (.ref 51), some (.int (iI w))]) (st' := [.int ((iI (W w 2)) - (iI (sL (svn nb W B P) w)))]) (g1 := (HW sc ar tx oc rl ou tl, q)) rfl ?_
  refine RQ.to (L' := [some (.ref 51), some (.int (iI w))]) (st' := [.int (iI (W w 2 - (sL (svn nb W B P) w)))]) rfl (by simp only [iI_add, iI_sub, iI_mul, iI_neg]) ?_
  refine RQ.ret rfl rfl ?_
  exact ⟨rfl, rfl⟩
theorem x_told {K : PK} {d : Nat} {sc : Nat → Int} {ar : Nat → Int → Int} {tx oc : Nat} {rl : Nat → Option Nat} {ou : Nat → Int64} {tl : List PO} {q : Nat × Nat} {row b j : Int} {nw nb : Int} {W B : Int → Int → Int} (hF : FrOK nw nb W B) (hX : FrX (sc 303) (sc 304) (ar 5) (ar 6) (ar 7) (ar 8) (ar 10) (ar 11) (ar 12) nw nb W B) {law : Int → Int} (hlw : ∀ j, 0 ≤ j → j < 4 → ar 32 j = law j) (hL : LwOK law) (rrow : -2147483648 ≤ row ∧ row < 2147483648) (rb : -2147483648 ≤ b ∧ b < 2147483648) (rj : -2147483648 ≤ j ∧ j < 2147483648) : CQ K (d + 6) 115 [.ref 0, .int (iI row), .int (iI b), .int (iI j)] (HW sc ar tx oc rl ou tl, q) (fun r g' => r = some (.int (iI (sTold nw nb W B law row b j))) ∧ ∃ sc' ar', g' = (HW sc' ar' tx oc rl ou tl, q) ∧ Same scF sc sc' ∧ Same scA ar ar') := by
  have hn := hF.1
  have hm1 := hX.1
  have hm2 := hX.2.1
  refine CQ.of (own := 10) (n := 4) (ini := false) (rt := (some .int)) (cd := cd115) (by decide +kernel) rfl (by decide +kernel) rfl (Nat.le_of_ble_eq_true rfl) ?_
  refine RQ.seg 2 (pc' := 2) (L' := [some (.ref 0), some (.int (iI row)), some (.int (iI b)), some (.int (iI j))]) (st' := [.int (iI b), .ref 0]) (g1 := (HW sc ar tx oc rl ou tl, q)) rfl ?_
  rcases Decidable.em (0 ≤ b ∧ b < nb) with h1 | h1
  · skip
    refine RQ.call rfl rfl (x_isBrN_t (by omega) hX hF h1) ?_
    refine RQ.seg 2 (pc' := 9) (L' := [some (.ref 0), some (.int (iI row)), some (.int (iI b)), some (.int (iI j))]) (st' := [.int (iI j)]) (g1 := (HW sc ar tx oc rl ou tl, q)) rfl ?_
    refine RQ.if1 (a := j) rfl rfl rfl (by omega) (fun (h2 : j < 0) => ?_) (fun (h2 : ¬ j < 0) => ?_)
    · skip
      refine RQ.seg 1 (pc' := 27) (L' := [some (.ref 0), some (.int (iI row)), some (.int (iI b)), some (.int (iI j))]) (st' := [.int (iI (-1000000))]) (g1 := (HW sc ar tx oc rl ou tl, q)) rfl ?_
      refine RQ.ret rfl rfl ?_
      refine ⟨?_, _, _, rfl, (by repeat (first | exact Same.rf | refine Same.us rfl ?_)), (by repeat (first | exact Same.rf | refine Same.us rfl ?_))⟩
      first | (exfalso; omega) | (congr 3; unfold sTold; first | (rw [if_neg (fun z => by first | omega | exact hrk z.2.2)]; done) | (rw [if_pos (by first | exact ⟨by omega, by omega, hrk⟩ | exact ⟨by omega, hrk⟩ | omega)]; (repeat (first | rw [if_pos (by omega)] | rw [if_neg (by omega)])); done))
    · skip
      refine RQ.seg 2 (pc' := 14) (L' := [some (.ref 0), some (.int (iI row)), some (.int (iI b)), some (.int (iI j))]) (st' := [.int (iI 3), .int (iI j)]) (g1 := (HW sc ar tx oc rl ou tl, q)) rfl ?_
      refine RQ.if2 (a := j) (b := 3) rfl rfl rfl rfl (by omega) (by omega) (fun (h3 : 3 < j) => ?_) (fun (h3 : ¬ 3 < j) => ?_)
      · skip
        refine RQ.seg 1 (pc' := 27) (L' := [some (.ref 0), some (.int (iI row)), some (.int (iI b)), some (.int (iI j))]) (st' := [.int (iI (-1000000))]) (g1 := (HW sc ar tx oc rl ou tl, q)) rfl ?_
        refine RQ.ret rfl rfl ?_
        refine ⟨?_, _, _, rfl, (by repeat (first | exact Same.rf | refine Same.us rfl ?_)), (by repeat (first | exact Same.rf | refine Same.us rfl ?_))⟩
        first | (exfalso; omega) | (congr 3; unfold sTold; first | (rw [if_neg (fun z => by first | omega | exact hrk z.2.2)]; done) | (rw [if_pos (by first | exact ⟨by omega, by omega, hrk⟩ | exact ⟨by omega, hrk⟩ | omega)]; (repeat (first | rw [if_pos (by omega)] | rw [if_neg (by omega)])); done))
      · skip
        refine RQ.seg 2 (pc' := 19) (L' := [some (.ref 0), some (.int (iI row)), some (.int (iI b)), some (.int (iI j))]) (st' := [.int (iI row), .ref 0]) (g1 := (HW sc ar tx oc rl ou tl, q)) rfl ?_
        refine RQ.callQ rfl rfl ((x_playRow (d := 0) (sc := sc) (ar := ar) hF hX (row := row) (by omega)).up (by omega)) (fun rv g1 hc => ?_)
        rcases hc with ⟨hrk, rfl, sc1, ar1, rfl, hp, hs1, ha1⟩ | ⟨hrk, rfl, f, rfl⟩
        · skip
          have hmy := prow_ok hn.2.2.1 hrk.2.2
          have hX1 := hX.sm hs1 ha1
          have hlw1 : ∀ j, 0 ≤ j → j < 4 → ar1 32 j = law j := fun j h0 h1 => (congrFun (ha1 32 rfl) j).trans (hlw j h0 h1)
          obtain ⟨y, hp1, hp2, hp3, hwi, hsh, hcl⟩ := id hp
          have hTr := (svn_ok hF hmy).2.1
          have hlm := lsm_nn (svn_ok hF hmy)
          refine RQ.seg 2 (pc' := 29) (L' := [some (.ref 0), some (.int (iI row)), some (.int (iI b)), some (.int (iI j))]) (st' := [.int (iI j)]) (g1 := (HW sc1 ar1 tx oc rl ou tl, q)) rfl ?_
          rcases (show j = 0 ∨ j = 1 ∨ j = 2 ∨ (j < 0 ∨ 2 < j) by omega) with h4 | h4 | h4 | h4
          · skip
            refine RQ.tsw (z := j) (o := 27) rfl rfl (by omega) (by rw [if_neg (by omega), h4]; rfl) rfl ?_
            refine RQ.seg 4 (pc' := 64) (L' := [some (.ref 0), some (.int (iI row)), some (.int (iI b)), some (.int (iI j))]) (st' := [.int (iI b), .ref 59]) (g1 := (HW sc1 ar1 tx oc rl ou tl, q)) rfl ?_
            refine RQ.ialdv (z := b) (v := (sS (svn nb W B (prow nb row)) b)) rfl rfl rfl (by omega) (by decide) (hp3.2.2.1 b (by omega) (by omega)) ?_
            refine RQ.ret rfl rfl ?_
            refine ⟨?_, _, _, rfl, (Same.tr (by repeat (first | exact Same.rf | refine Same.us rfl ?_)) (hs1.w rfl)), (Same.tr (by repeat (first | exact Same.rf | refine Same.us rfl ?_)) (ha1.w rfl))⟩
            first | (exfalso; omega) | (congr 3; unfold sTold; first | (rw [if_neg (fun z => by first | omega | exact hrk z.2.2)]; done) | (rw [if_pos (by first | exact ⟨by omega, by omega, hrk⟩ | exact ⟨by omega, hrk⟩ | omega)]; (repeat (first | rw [if_pos (by omega)] | rw [if_neg (by omega)])); done))
          · skip
            refine RQ.tsw (z := j) (o := 37) rfl rfl (by omega) (by rw [if_neg (by omega), h4]; rfl) rfl ?_
            refine RQ.seg 2 (pc' := 68) (L' := [some (.ref 0), some (.int (iI row)), some (.int (iI b)), some (.int (iI j))]) (st' := [.int (iI b), .ref 0]) (g1 := (HW sc1 ar1 tx oc rl ou tl, q)) rfl ?_
            refine RQ.call rfl rfl (CallR.up (d := 5) (x_gainOf (d := 0) hF hX1 hmy hp hlw1 hL (b := b) (by omega)) (by omega)) ?_
            refine RQ.ret rfl rfl ?_
            refine ⟨?_, _, _, rfl, (Same.tr (by repeat (first | exact Same.rf | refine Same.us rfl ?_)) (hs1.w rfl)), (Same.tr (by repeat (first | exact Same.rf | refine Same.us rfl ?_)) (ha1.w rfl))⟩
            first | (exfalso; omega) | (congr 3; unfold sTold; first | (rw [if_neg (fun z => by first | omega | exact hrk z.2.2)]; done) | (rw [if_pos (by first | exact ⟨by omega, by omega, hrk⟩ | exact ⟨by omega, hrk⟩ | omega)]; (repeat (first | rw [if_pos (by omega)] | rw [if_neg (by omega)])); done))
          · skip
            refine RQ.tsw (z := j) (o := 43) rfl rfl (by omega) (by rw [if_neg (by omega), h4]; rfl) rfl ?_
            refine RQ.seg 3 (pc' := 77) (L' := [some (.ref 0), some (.int (iI row)), some (.int (iI b)), some (.int (iI j))]) (st' := [.int (iI b), .ref 51]) (g1 := (HW sc1 ar1 tx oc rl ou tl, q)) rfl ?_
            rcases (show bkv nb B (prow nb row) b = 1 ∨ bkv nb B (prow nb row) b = 0 by have := bkv_r nb B (prow nb row) b; omega) with h5 | h5
            · skip
              refine RQ.call rfl rfl (x_isBack_t hF hX1 hmy hp (by omega) h5) ?_
              refine RQ.seg 3 (pc' := 96) (L' := [some (.ref 0), some (.int (iI row)), some (.int (iI b)), some (.int (iI j))]) (st' := [.int (iI (-1))]) (g1 := (HW sc1 ar1 tx oc rl ou tl, q)) rfl ?_
              refine RQ.ret rfl rfl ?_
              refine ⟨?_, _, _, rfl, (Same.tr (by repeat (first | exact Same.rf | refine Same.us rfl ?_)) (hs1.w rfl)), (Same.tr (by repeat (first | exact Same.rf | refine Same.us rfl ?_)) (ha1.w rfl))⟩
              first | (exfalso; omega) | (congr 3; unfold sTold; first | (rw [if_neg (fun z => by first | omega | exact hrk z.2.2)]; done) | (rw [if_pos (by first | exact ⟨by omega, by omega, hrk⟩ | exact ⟨by omega, hrk⟩ | omega)]; (repeat (first | rw [if_pos (by omega)] | rw [if_neg (by omega)])); done))
            · skip
              refine RQ.call rfl rfl (x_isBack_f hF hX1 hmy hp (by omega) h5) ?_
              refine RQ.seg 5 (pc' := 95) (L' := [some (.ref 0), some (.int (iI row)), some (.int (iI b)), some (.int (iI j))]) (st' := [.int (iI b), .ref 57]) (g1 := (HW sc1 ar1 tx oc rl ou tl, q)) rfl ?_
              refine RQ.ialdv (z := b) (v := (shk nb W B (prow nb row) b)) rfl rfl rfl (by omega) (by decide) ((hsh b (by omega) (by omega)).trans (if_pos (by omega))) ?_
              refine RQ.ret rfl rfl ?_
              refine ⟨?_, _, _, rfl, (Same.tr (by repeat (first | exact Same.rf | refine Same.us rfl ?_)) (hs1.w rfl)), (Same.tr (by repeat (first | exact Same.rf | refine Same.us rfl ?_)) (ha1.w rfl))⟩
              first | (exfalso; omega) | (congr 3; unfold sTold; first | (rw [if_neg (fun z => by first | omega | exact hrk z.2.2)]; done) | (rw [if_pos (by first | exact ⟨by omega, by omega, hrk⟩ | exact ⟨by omega, hrk⟩ | omega)]; (repeat (first | rw [if_pos (by omega)] | rw [if_neg (by omega)])); done))
          · skip
            refine RQ.tsw (z := j) (o := 68) rfl rfl (by omega) (if_pos h4) rfl ?_
            refine RQ.seg 3 (pc' := 102) (L' := [some (.ref 0), some (.int (iI row)), some (.int (iI b)), some (.int (iI j))]) (st' := [.int (iI b), .ref 51]) (g1 := (HW sc1 ar1 tx oc rl ou tl, q)) rfl ?_
            rcases (show bkv nb B (prow nb row) b = 1 ∨ bkv nb B (prow nb row) b = 0 by have := bkv_r nb B (prow nb row) b; omega) with h6 | h6
            · skip
              refine RQ.call rfl rfl (x_isBack_t hF hX1 hmy hp (by omega) h6) ?_
              refine RQ.seg 3 (pc' := 121) (L' := [some (.ref 0), some (.int (iI row)), some (.int (iI b)), some (.int (iI j))]) (st' := [.int (iI (-1))]) (g1 := (HW sc1 ar1 tx oc rl ou tl, q)) rfl ?_
              refine RQ.ret rfl rfl ?_
              refine ⟨?_, _, _, rfl, (Same.tr (by repeat (first | exact Same.rf | refine Same.us rfl ?_)) (hs1.w rfl)), (Same.tr (by repeat (first | exact Same.rf | refine Same.us rfl ?_)) (ha1.w rfl))⟩
              first | (exfalso; omega) | (congr 3; unfold sTold; first | (rw [if_neg (fun z => by first | omega | exact hrk z.2.2)]; done) | (rw [if_pos (by first | exact ⟨by omega, by omega, hrk⟩ | exact ⟨by omega, hrk⟩ | omega)]; (repeat (first | rw [if_pos (by omega)] | rw [if_neg (by omega)])); done))
            · skip
              refine RQ.call rfl rfl (x_isBack_f hF hX1 hmy hp (by omega) h6) ?_
              refine RQ.seg 5 (pc' := 120) (L' := [some (.ref 0), some (.int (iI row)), some (.int (iI b)), some (.int (iI j))]) (st' := [.int (iI b), .ref 58]) (g1 := (HW sc1 ar1 tx oc rl ou tl, q)) rfl ?_
              refine RQ.ialdv (z := b) (v := (clb nb W B (prow nb row) b)) rfl rfl rfl (by omega) (by decide) (hcl b (by omega) (by omega) (by omega)) ?_
              refine RQ.ret rfl rfl ?_
              refine ⟨?_, _, _, rfl, (Same.tr (by repeat (first | exact Same.rf | refine Same.us rfl ?_)) (hs1.w rfl)), (Same.tr (by repeat (first | exact Same.rf | refine Same.us rfl ?_)) (ha1.w rfl))⟩
              first | (exfalso; omega) | (congr 3; unfold sTold; first | (rw [if_neg (fun z => by first | omega | exact hrk z.2.2)]; done) | (rw [if_pos (by first | exact ⟨by omega, by omega, hrk⟩ | exact ⟨by omega, hrk⟩ | omega)]; (repeat (first | rw [if_pos (by omega)] | rw [if_neg (by omega)])); done))
        · skip
          refine RQ.seg 2 (pc' := 27) (L' := [some (.ref 0), some (.int (iI row)), some (.int (iI b)), some (.int (iI j))]) (st' := [.int (iI (-1000000))]) (g1 := (HW sc (usc ar 78 f) tx oc rl ou tl, q)) rfl ?_
          refine RQ.ret rfl rfl ?_
          refine ⟨?_, _, _, rfl, (by repeat (first | exact Same.rf | refine Same.us rfl ?_)), (by repeat (first | exact Same.rf | refine Same.us rfl ?_))⟩
          first | (exfalso; omega) | (congr 3; unfold sTold; first | (rw [if_neg (fun z => by first | omega | exact hrk z.2.2)]; done) | (rw [if_pos (by first | exact ⟨by omega, by omega, hrk⟩ | exact ⟨by omega, hrk⟩ | omega)]; (repeat (first | rw [if_pos (by omega)] | rw [if_neg (by omega)])); done))
  · skip
    refine RQ.call rfl rfl (x_isBrN_f (by omega) hX hF h1) ?_
    refine RQ.seg 2 (pc' := 27) (L' := [some (.ref 0), some (.int (iI row)), some (.int (iI b)), some (.int (iI j))]) (st' := [.int (iI (-1000000))]) (g1 := (HW sc ar tx oc rl ou tl, q)) rfl ?_
    refine RQ.ret rfl rfl ?_
    refine ⟨?_, _, _, rfl, (by repeat (first | exact Same.rf | refine Same.us rfl ?_)), (by repeat (first | exact Same.rf | refine Same.us rfl ?_))⟩
    first | (exfalso; omega) | (congr 3; unfold sTold; first | (rw [if_neg (fun z => by first | omega | exact hrk z.2.2)]; done) | (rw [if_pos (by first | exact ⟨by omega, by omega, hrk⟩ | exact ⟨by omega, hrk⟩ | omega)]; (repeat (first | rw [if_pos (by omega)] | rw [if_neg (by omega)])); done))
theorem x_all {K : PK} {d : Nat} {sc : Nat → Int} {ar : Nat → Int → Int} {tx oc : Nat} {rl : Nat → Option Nat} {ou : Nat → Int64} {tl : List PO} {q : Nat × Nat} {row j : Int} {nw nb : Int} {W B : Int → Int → Int} (hF : FrOK nw nb W B) (hX : FrX (sc 303) (sc 304) (ar 5) (ar 6) (ar 7) (ar 8) (ar 10) (ar 11) (ar 12) nw nb W B) {law : Int → Int} (hlw : ∀ j, 0 ≤ j → j < 4 → ar 32 j = law j) (hL : LwOK law) (rrow : -2147483648 ≤ row ∧ row < 2147483648) (rj : -2147483648 ≤ j ∧ j < 2147483648) : CQ K (d + 6) 116 [.ref 0, .int (iI row), .int (iI j)] (HW sc ar tx oc rl ou tl, q) (fun r g' => r = some (.int (iI (sAll nw nb W B row j))) ∧ ∃ sc' ar', g' = (HW sc' ar' tx oc rl ou tl, q) ∧ Same scF sc sc' ∧ Same scA ar ar') := by
  have hn := hF.1
  have hm1 := hX.1
  have hm2 := hX.2.1
  refine CQ.of (own := 10) (n := 4) (ini := false) (rt := (some .int)) (cd := cd116) (by decide +kernel) rfl (by decide +kernel) rfl (Nat.le_of_ble_eq_true rfl) ?_
  refine RQ.seg 4 (pc' := 4) (L' := [some (.ref 0), some (.int (iI row)), some (.int (iI j)), none]) (st' := [.int ((iI j) - (iI 1)), .ref 0]) (g1 := (HW sc ar tx oc rl ou tl, q)) rfl ?_
  refine RQ.to (L' := [some (.ref 0), some (.int (iI row)), some (.int (iI j)), none]) (st' := [.int (iI (j - 1)), .ref 0]) rfl (by simp only [iI_add, iI_sub, iI_mul, iI_neg]) ?_
  rcases Decidable.em (0 ≤ j - 1 ∧ j - 1 < nw) with h1 | h1
  · skip
    refine RQ.call rfl rfl (x_isWiW_t hF hX (by omega) h1) ?_
    refine RQ.seg 2 (pc' := 9) (L' := [some (.ref 0), some (.int (iI row)), some (.int (iI j)), some (.int (iI 1))]) (st' := [.int (iI j)]) (g1 := (HW sc ar tx oc rl ou tl, q)) rfl ?_
    refine RQ.if1 (a := j) rfl rfl rfl (by omega) (fun (h2 : j = 0) => ?_) (fun (h2 : ¬ j = 0) => ?_)
    · skip
      refine RQ.seg 2 (pc' := 27) (L' := [some (.ref 0), some (.int (iI row)), some (.int (iI j)), some (.int (iI 1))]) (st' := [.int (iI row), .ref 0]) (g1 := (HW sc ar tx oc rl ou tl, q)) rfl ?_
      refine RQ.callQ rfl rfl ((x_playRow (d := 0) (sc := sc) (ar := ar) hF hX (row := row) (by omega)).up (by omega)) (fun rv g1 hc => ?_)
      rcases hc with ⟨hrk, rfl, sc1, ar1, rfl, hp, hs1, ha1⟩ | ⟨hrk, rfl, f, rfl⟩
      · skip
        have hmy := prow_ok hn.2.2.1 hrk.2.2
        have hX1 := hX.sm hs1 ha1
        have hlw1 : ∀ j, 0 ≤ j → j < 4 → ar1 32 j = law j := fun j h0 h1 => (congrFun (ha1 32 rfl) j).trans (hlw j h0 h1)
        obtain ⟨y, hp1, hp2, hp3, hwi, hsh, hcl⟩ := id hp
        have hTr := (svn_ok hF hmy).2.1
        have hlm := lsm_nn (svn_ok hF hmy)
        refine RQ.seg 2 (pc' := 37) (L' := [some (.ref 0), some (.int (iI row)), some (.int (iI j)), some (.int (iI 1))]) (st' := [.int (iI j)]) (g1 := (HW sc1 ar1 tx oc rl ou tl, q)) rfl ?_
        refine RQ.if1 (a := j) rfl rfl rfl (by omega) (fun (h3 : j ≠ 0) => ?_) (fun (h3 : ¬ j ≠ 0) => ?_)
        · skip
          refine RQ.seg 7 (pc' := 59) (L' := [some (.ref 0), some (.int (iI row)), some (.int (iI j)), some (.int (iI 1))]) (st' := [.int ((iI j) - (iI 1)), .ref 51]) (g1 := (HW sc1 ar1 tx oc rl ou tl, q)) rfl ?_
          refine RQ.to (L' := [some (.ref 0), some (.int (iI row)), some (.int (iI j)), some (.int (iI 1))]) (st' := [.int (iI (j - 1)), .ref 51]) rfl (by simp only [iI_add, iI_sub, iI_mul, iI_neg]) ?_
          refine RQ.call rfl rfl (x_savedAt hF hX1 hmy hp (w := j - 1) (by omega)) ?_
          refine RQ.seg 1 (pc' := 72) (L' := [some (.ref 0), some (.int (iI row)), some (.int (iI j)), some (.int (iI 1))]) (st' := [.int (iI (W (j - 1) 2 - sL (svn nb W B (prow nb row)) (j - 1)))]) (g1 := (HW sc1 ar1 tx oc rl ou tl, q)) rfl ?_
          refine RQ.ret rfl rfl ?_
          refine ⟨?_, _, _, rfl, (Same.tr (by repeat (first | exact Same.rf | refine Same.us rfl ?_)) (hs1.w rfl)), (Same.tr (by repeat (first | exact Same.rf | refine Same.us rfl ?_)) (ha1.w rfl))⟩
          first | (exfalso; omega) | (congr 3; unfold sAll; first | (rw [if_neg (fun z => by first | omega | exact hrk z.2)]; done) | (rw [if_pos (by first | exact ⟨by omega, by omega, hrk⟩ | exact ⟨by omega, hrk⟩ | omega)]; (repeat (first | rw [if_pos (by omega)] | rw [if_neg (by omega)])); done))
        · skip
          refine RQ.seg 2 (pc' := 44) (L' := [some (.ref 0), some (.int (iI row)), some (.int (iI j)), some (.int (iI 1))]) (st' := [.ref 51]) (g1 := (HW sc1 ar1 tx oc rl ou tl, q)) rfl ?_
          refine RQ.seg 1 (pc' := 47) (L' := [some (.ref 0), some (.int (iI row)), some (.int (iI j)), some (.int (iI 1))]) (st' := [.int (iI (sc1 5112))]) (g1 := (HW sc1 ar1 tx oc rl ou tl, q)) rfl ?_
          refine RQ.to (L' := [some (.ref 0), some (.int (iI row)), some (.int (iI j)), some (.int (iI 1))]) (st' := [.int (iI (sT (svn nb W B (prow nb row))))]) rfl (by rw [show sc1 5112 = sT (svn nb W B (prow nb row)) from hp3.2.1]) ?_
          refine RQ.ret rfl rfl ?_
          refine ⟨?_, _, _, rfl, (Same.tr (by repeat (first | exact Same.rf | refine Same.us rfl ?_)) (hs1.w rfl)), (Same.tr (by repeat (first | exact Same.rf | refine Same.us rfl ?_)) (ha1.w rfl))⟩
          first | (exfalso; omega) | (congr 3; unfold sAll; first | (rw [if_neg (fun z => by first | omega | exact hrk z.2)]; done) | (rw [if_pos (by first | exact ⟨by omega, by omega, hrk⟩ | exact ⟨by omega, hrk⟩ | omega)]; (repeat (first | rw [if_pos (by omega)] | rw [if_neg (by omega)])); done))
      · skip
        refine RQ.seg 2 (pc' := 35) (L' := [some (.ref 0), some (.int (iI row)), some (.int (iI j)), some (.int (iI 1))]) (st' := [.int (iI (-1000000))]) (g1 := (HW sc (usc ar 78 f) tx oc rl ou tl, q)) rfl ?_
        refine RQ.ret rfl rfl ?_
        refine ⟨?_, _, _, rfl, (by repeat (first | exact Same.rf | refine Same.us rfl ?_)), (by repeat (first | exact Same.rf | refine Same.us rfl ?_))⟩
        first | (exfalso; omega) | (congr 3; unfold sAll; first | (rw [if_neg (fun z => by first | omega | exact hrk z.2)]; done) | (rw [if_pos (by first | exact ⟨by omega, by omega, hrk⟩ | exact ⟨by omega, hrk⟩ | omega)]; (repeat (first | rw [if_pos (by omega)] | rw [if_neg (by omega)])); done))
    · skip
      refine RQ.seg 2 (pc' := 15) (L' := [some (.ref 0), some (.int (iI row)), some (.int (iI j)), some (.int (iI 1))]) (st' := [.int (iI 9), .int (iI j)]) (g1 := (HW sc ar tx oc rl ou tl, q)) rfl ?_
      refine RQ.if2 (a := j) (b := 9) rfl rfl rfl rfl (by omega) (by omega) (fun (h4 : j = 9) => ?_) (fun (h4 : ¬ j = 9) => ?_)
      · skip
        refine RQ.seg 2 (pc' := 27) (L' := [some (.ref 0), some (.int (iI row)), some (.int (iI j)), some (.int (iI 1))]) (st' := [.int (iI row), .ref 0]) (g1 := (HW sc ar tx oc rl ou tl, q)) rfl ?_
        refine RQ.callQ rfl rfl ((x_playRow (d := 0) (sc := sc) (ar := ar) hF hX (row := row) (by omega)).up (by omega)) (fun rv g1 hc => ?_)
        rcases hc with ⟨hrk, rfl, sc1, ar1, rfl, hp, hs1, ha1⟩ | ⟨hrk, rfl, f, rfl⟩
        · skip
          have hmy := prow_ok hn.2.2.1 hrk.2.2
          have hX1 := hX.sm hs1 ha1
          have hlw1 : ∀ j, 0 ≤ j → j < 4 → ar1 32 j = law j := fun j h0 h1 => (congrFun (ha1 32 rfl) j).trans (hlw j h0 h1)
          obtain ⟨y, hp1, hp2, hp3, hwi, hsh, hcl⟩ := id hp
          have hTr := (svn_ok hF hmy).2.1
          have hlm := lsm_nn (svn_ok hF hmy)
          refine RQ.seg 2 (pc' := 37) (L' := [some (.ref 0), some (.int (iI row)), some (.int (iI j)), some (.int (iI 1))]) (st' := [.int (iI j)]) (g1 := (HW sc1 ar1 tx oc rl ou tl, q)) rfl ?_
          refine RQ.if1 (a := j) rfl rfl rfl (by omega) (fun (h5 : j ≠ 0) => ?_) (fun (h5 : ¬ j ≠ 0) => ?_)
          · skip
            refine RQ.seg 7 (pc' := 59) (L' := [some (.ref 0), some (.int (iI row)), some (.int (iI j)), some (.int (iI 1))]) (st' := [.int ((iI j) - (iI 1)), .ref 51]) (g1 := (HW sc1 ar1 tx oc rl ou tl, q)) rfl ?_
            refine RQ.to (L' := [some (.ref 0), some (.int (iI row)), some (.int (iI j)), some (.int (iI 1))]) (st' := [.int (iI (j - 1)), .ref 51]) rfl (by simp only [iI_add, iI_sub, iI_mul, iI_neg]) ?_
            refine RQ.call rfl rfl (x_savedAt hF hX1 hmy hp (w := j - 1) (by omega)) ?_
            refine RQ.seg 1 (pc' := 72) (L' := [some (.ref 0), some (.int (iI row)), some (.int (iI j)), some (.int (iI 1))]) (st' := [.int (iI (W (j - 1) 2 - sL (svn nb W B (prow nb row)) (j - 1)))]) (g1 := (HW sc1 ar1 tx oc rl ou tl, q)) rfl ?_
            refine RQ.ret rfl rfl ?_
            refine ⟨?_, _, _, rfl, (Same.tr (by repeat (first | exact Same.rf | refine Same.us rfl ?_)) (hs1.w rfl)), (Same.tr (by repeat (first | exact Same.rf | refine Same.us rfl ?_)) (ha1.w rfl))⟩
            first | (exfalso; omega) | (congr 3; unfold sAll; first | (rw [if_neg (fun z => by first | omega | exact hrk z.2)]; done) | (rw [if_pos (by first | exact ⟨by omega, by omega, hrk⟩ | exact ⟨by omega, hrk⟩ | omega)]; (repeat (first | rw [if_pos (by omega)] | rw [if_neg (by omega)])); done))
          · skip
            refine RQ.seg 2 (pc' := 44) (L' := [some (.ref 0), some (.int (iI row)), some (.int (iI j)), some (.int (iI 1))]) (st' := [.ref 51]) (g1 := (HW sc1 ar1 tx oc rl ou tl, q)) rfl ?_
            refine RQ.seg 1 (pc' := 47) (L' := [some (.ref 0), some (.int (iI row)), some (.int (iI j)), some (.int (iI 1))]) (st' := [.int (iI (sc1 5112))]) (g1 := (HW sc1 ar1 tx oc rl ou tl, q)) rfl ?_
            refine RQ.to (L' := [some (.ref 0), some (.int (iI row)), some (.int (iI j)), some (.int (iI 1))]) (st' := [.int (iI (sT (svn nb W B (prow nb row))))]) rfl (by rw [show sc1 5112 = sT (svn nb W B (prow nb row)) from hp3.2.1]) ?_
            refine RQ.ret rfl rfl ?_
            refine ⟨?_, _, _, rfl, (Same.tr (by repeat (first | exact Same.rf | refine Same.us rfl ?_)) (hs1.w rfl)), (Same.tr (by repeat (first | exact Same.rf | refine Same.us rfl ?_)) (ha1.w rfl))⟩
            first | (exfalso; omega) | (congr 3; unfold sAll; first | (rw [if_neg (fun z => by first | omega | exact hrk z.2)]; done) | (rw [if_pos (by first | exact ⟨by omega, by omega, hrk⟩ | exact ⟨by omega, hrk⟩ | omega)]; (repeat (first | rw [if_pos (by omega)] | rw [if_neg (by omega)])); done))
        · skip
          refine RQ.seg 2 (pc' := 35) (L' := [some (.ref 0), some (.int (iI row)), some (.int (iI j)), some (.int (iI 1))]) (st' := [.int (iI (-1000000))]) (g1 := (HW sc (usc ar 78 f) tx oc rl ou tl, q)) rfl ?_
          refine RQ.ret rfl rfl ?_
          refine ⟨?_, _, _, rfl, (by repeat (first | exact Same.rf | refine Same.us rfl ?_)), (by repeat (first | exact Same.rf | refine Same.us rfl ?_))⟩
          first | (exfalso; omega) | (congr 3; unfold sAll; first | (rw [if_neg (fun z => by first | omega | exact hrk z.2)]; done) | (rw [if_pos (by first | exact ⟨by omega, by omega, hrk⟩ | exact ⟨by omega, hrk⟩ | omega)]; (repeat (first | rw [if_pos (by omega)] | rw [if_neg (by omega)])); done))
      · skip
        refine RQ.seg 4 (pc' := 27) (L' := [some (.ref 0), some (.int (iI row)), some (.int (iI j)), some (.int (iI 1))]) (st' := [.int (iI row), .ref 0]) (g1 := (HW sc ar tx oc rl ou tl, q)) rfl ?_
        refine RQ.callQ rfl rfl ((x_playRow (d := 0) (sc := sc) (ar := ar) hF hX (row := row) (by omega)).up (by omega)) (fun rv g1 hc => ?_)
        rcases hc with ⟨hrk, rfl, sc1, ar1, rfl, hp, hs1, ha1⟩ | ⟨hrk, rfl, f, rfl⟩
        · skip
          have hmy := prow_ok hn.2.2.1 hrk.2.2
          have hX1 := hX.sm hs1 ha1
          have hlw1 : ∀ j, 0 ≤ j → j < 4 → ar1 32 j = law j := fun j h0 h1 => (congrFun (ha1 32 rfl) j).trans (hlw j h0 h1)
          obtain ⟨y, hp1, hp2, hp3, hwi, hsh, hcl⟩ := id hp
          have hTr := (svn_ok hF hmy).2.1
          have hlm := lsm_nn (svn_ok hF hmy)
          refine RQ.seg 2 (pc' := 37) (L' := [some (.ref 0), some (.int (iI row)), some (.int (iI j)), some (.int (iI 1))]) (st' := [.int (iI j)]) (g1 := (HW sc1 ar1 tx oc rl ou tl, q)) rfl ?_
          refine RQ.if1 (a := j) rfl rfl rfl (by omega) (fun (h6 : j ≠ 0) => ?_) (fun (h6 : ¬ j ≠ 0) => ?_)
          · skip
            refine RQ.seg 7 (pc' := 59) (L' := [some (.ref 0), some (.int (iI row)), some (.int (iI j)), some (.int (iI 1))]) (st' := [.int ((iI j) - (iI 1)), .ref 51]) (g1 := (HW sc1 ar1 tx oc rl ou tl, q)) rfl ?_
            refine RQ.to (L' := [some (.ref 0), some (.int (iI row)), some (.int (iI j)), some (.int (iI 1))]) (st' := [.int (iI (j - 1)), .ref 51]) rfl (by simp only [iI_add, iI_sub, iI_mul, iI_neg]) ?_
            refine RQ.call rfl rfl (x_savedAt hF hX1 hmy hp (w := j - 1) (by omega)) ?_
            refine RQ.seg 1 (pc' := 72) (L' := [some (.ref 0), some (.int (iI row)), some (.int (iI j)), some (.int (iI 1))]) (st' := [.int (iI (W (j - 1) 2 - sL (svn nb W B (prow nb row)) (j - 1)))]) (g1 := (HW sc1 ar1 tx oc rl ou tl, q)) rfl ?_
            refine RQ.ret rfl rfl ?_
            refine ⟨?_, _, _, rfl, (Same.tr (by repeat (first | exact Same.rf | refine Same.us rfl ?_)) (hs1.w rfl)), (Same.tr (by repeat (first | exact Same.rf | refine Same.us rfl ?_)) (ha1.w rfl))⟩
            first | (exfalso; omega) | (congr 3; unfold sAll; first | (rw [if_neg (fun z => by first | omega | exact hrk z.2)]; done) | (rw [if_pos (by first | exact ⟨by omega, by omega, hrk⟩ | exact ⟨by omega, hrk⟩ | omega)]; (repeat (first | rw [if_pos (by omega)] | rw [if_neg (by omega)])); done))
          · skip
            refine RQ.seg 2 (pc' := 44) (L' := [some (.ref 0), some (.int (iI row)), some (.int (iI j)), some (.int (iI 1))]) (st' := [.ref 51]) (g1 := (HW sc1 ar1 tx oc rl ou tl, q)) rfl ?_
            refine RQ.seg 1 (pc' := 47) (L' := [some (.ref 0), some (.int (iI row)), some (.int (iI j)), some (.int (iI 1))]) (st' := [.int (iI (sc1 5112))]) (g1 := (HW sc1 ar1 tx oc rl ou tl, q)) rfl ?_
            refine RQ.to (L' := [some (.ref 0), some (.int (iI row)), some (.int (iI j)), some (.int (iI 1))]) (st' := [.int (iI (sT (svn nb W B (prow nb row))))]) rfl (by rw [show sc1 5112 = sT (svn nb W B (prow nb row)) from hp3.2.1]) ?_
            refine RQ.ret rfl rfl ?_
            refine ⟨?_, _, _, rfl, (Same.tr (by repeat (first | exact Same.rf | refine Same.us rfl ?_)) (hs1.w rfl)), (Same.tr (by repeat (first | exact Same.rf | refine Same.us rfl ?_)) (ha1.w rfl))⟩
            first | (exfalso; omega) | (congr 3; unfold sAll; first | (rw [if_neg (fun z => by first | omega | exact hrk z.2)]; done) | (rw [if_pos (by first | exact ⟨by omega, by omega, hrk⟩ | exact ⟨by omega, hrk⟩ | omega)]; (repeat (first | rw [if_pos (by omega)] | rw [if_neg (by omega)])); done))
        · skip
          refine RQ.seg 2 (pc' := 35) (L' := [some (.ref 0), some (.int (iI row)), some (.int (iI j)), some (.int (iI 1))]) (st' := [.int (iI (-1000000))]) (g1 := (HW sc (usc ar 78 f) tx oc rl ou tl, q)) rfl ?_
          refine RQ.ret rfl rfl ?_
          refine ⟨?_, _, _, rfl, (by repeat (first | exact Same.rf | refine Same.us rfl ?_)), (by repeat (first | exact Same.rf | refine Same.us rfl ?_))⟩
          first | (exfalso; omega) | (congr 3; unfold sAll; first | (rw [if_neg (fun z => by first | omega | exact hrk z.2)]; done) | (rw [if_pos (by first | exact ⟨by omega, by omega, hrk⟩ | exact ⟨by omega, hrk⟩ | omega)]; (repeat (first | rw [if_pos (by omega)] | rw [if_neg (by omega)])); done))
  · skip
    refine RQ.call rfl rfl (x_isWiW_f hF hX (by omega) h1) ?_
    refine RQ.seg 2 (pc' := 9) (L' := [some (.ref 0), some (.int (iI row)), some (.int (iI j)), some (.int (iI 0))]) (st' := [.int (iI j)]) (g1 := (HW sc ar tx oc rl ou tl, q)) rfl ?_
    refine RQ.if1 (a := j) rfl rfl rfl (by omega) (fun (h7 : j = 0) => ?_) (fun (h7 : ¬ j = 0) => ?_)
    · skip
      refine RQ.seg 2 (pc' := 27) (L' := [some (.ref 0), some (.int (iI row)), some (.int (iI j)), some (.int (iI 0))]) (st' := [.int (iI row), .ref 0]) (g1 := (HW sc ar tx oc rl ou tl, q)) rfl ?_
      refine RQ.callQ rfl rfl ((x_playRow (d := 0) (sc := sc) (ar := ar) hF hX (row := row) (by omega)).up (by omega)) (fun rv g1 hc => ?_)
      rcases hc with ⟨hrk, rfl, sc1, ar1, rfl, hp, hs1, ha1⟩ | ⟨hrk, rfl, f, rfl⟩
      · skip
        have hmy := prow_ok hn.2.2.1 hrk.2.2
        have hX1 := hX.sm hs1 ha1
        have hlw1 : ∀ j, 0 ≤ j → j < 4 → ar1 32 j = law j := fun j h0 h1 => (congrFun (ha1 32 rfl) j).trans (hlw j h0 h1)
        obtain ⟨y, hp1, hp2, hp3, hwi, hsh, hcl⟩ := id hp
        have hTr := (svn_ok hF hmy).2.1
        have hlm := lsm_nn (svn_ok hF hmy)
        refine RQ.seg 2 (pc' := 37) (L' := [some (.ref 0), some (.int (iI row)), some (.int (iI j)), some (.int (iI 0))]) (st' := [.int (iI j)]) (g1 := (HW sc1 ar1 tx oc rl ou tl, q)) rfl ?_
        refine RQ.if1 (a := j) rfl rfl rfl (by omega) (fun (h8 : j ≠ 0) => ?_) (fun (h8 : ¬ j ≠ 0) => ?_)
        · skip
          refine RQ.seg 4 (pc' := 69) (L' := [some (.ref 0), some (.int (iI row)), some (.int (iI j)), some (.int (iI 0))]) (st' := [.ref 51]) (g1 := (HW sc1 ar1 tx oc rl ou tl, q)) rfl ?_
          refine RQ.call rfl rfl (x_backs hF hX1 hmy hp) ?_
          refine RQ.ret rfl rfl ?_
          refine ⟨?_, _, _, rfl, (Same.tr (by repeat (first | exact Same.rf | refine Same.us rfl ?_)) (hs1.w rfl)), (Same.tr (by repeat (first | exact Same.rf | refine Same.us rfl ?_)) (ha1.w rfl))⟩
          first | (exfalso; omega) | (congr 3; unfold sAll; first | (rw [if_neg (fun z => by first | omega | exact hrk z.2)]; done) | (rw [if_pos (by first | exact ⟨by omega, by omega, hrk⟩ | exact ⟨by omega, hrk⟩ | omega)]; (repeat (first | rw [if_pos (by omega)] | rw [if_neg (by omega)])); done))
        · skip
          refine RQ.seg 2 (pc' := 44) (L' := [some (.ref 0), some (.int (iI row)), some (.int (iI j)), some (.int (iI 0))]) (st' := [.ref 51]) (g1 := (HW sc1 ar1 tx oc rl ou tl, q)) rfl ?_
          refine RQ.seg 1 (pc' := 47) (L' := [some (.ref 0), some (.int (iI row)), some (.int (iI j)), some (.int (iI 0))]) (st' := [.int (iI (sc1 5112))]) (g1 := (HW sc1 ar1 tx oc rl ou tl, q)) rfl ?_
          refine RQ.to (L' := [some (.ref 0), some (.int (iI row)), some (.int (iI j)), some (.int (iI 0))]) (st' := [.int (iI (sT (svn nb W B (prow nb row))))]) rfl (by rw [show sc1 5112 = sT (svn nb W B (prow nb row)) from hp3.2.1]) ?_
          refine RQ.ret rfl rfl ?_
          refine ⟨?_, _, _, rfl, (Same.tr (by repeat (first | exact Same.rf | refine Same.us rfl ?_)) (hs1.w rfl)), (Same.tr (by repeat (first | exact Same.rf | refine Same.us rfl ?_)) (ha1.w rfl))⟩
          first | (exfalso; omega) | (congr 3; unfold sAll; first | (rw [if_neg (fun z => by first | omega | exact hrk z.2)]; done) | (rw [if_pos (by first | exact ⟨by omega, by omega, hrk⟩ | exact ⟨by omega, hrk⟩ | omega)]; (repeat (first | rw [if_pos (by omega)] | rw [if_neg (by omega)])); done))
      · skip
        refine RQ.seg 2 (pc' := 35) (L' := [some (.ref 0), some (.int (iI row)), some (.int (iI j)), some (.int (iI 0))]) (st' := [.int (iI (-1000000))]) (g1 := (HW sc (usc ar 78 f) tx oc rl ou tl, q)) rfl ?_
        refine RQ.ret rfl rfl ?_
        refine ⟨?_, _, _, rfl, (by repeat (first | exact Same.rf | refine Same.us rfl ?_)), (by repeat (first | exact Same.rf | refine Same.us rfl ?_))⟩
        first | (exfalso; omega) | (congr 3; unfold sAll; first | (rw [if_neg (fun z => by first | omega | exact hrk z.2)]; done) | (rw [if_pos (by first | exact ⟨by omega, by omega, hrk⟩ | exact ⟨by omega, hrk⟩ | omega)]; (repeat (first | rw [if_pos (by omega)] | rw [if_neg (by omega)])); done))
    · skip
      refine RQ.seg 2 (pc' := 15) (L' := [some (.ref 0), some (.int (iI row)), some (.int (iI j)), some (.int (iI 0))]) (st' := [.int (iI 9), .int (iI j)]) (g1 := (HW sc ar tx oc rl ou tl, q)) rfl ?_
      refine RQ.if2 (a := j) (b := 9) rfl rfl rfl rfl (by omega) (by omega) (fun (h9 : j = 9) => ?_) (fun (h9 : ¬ j = 9) => ?_)
      · skip
        refine RQ.seg 2 (pc' := 27) (L' := [some (.ref 0), some (.int (iI row)), some (.int (iI j)), some (.int (iI 0))]) (st' := [.int (iI row), .ref 0]) (g1 := (HW sc ar tx oc rl ou tl, q)) rfl ?_
        refine RQ.callQ rfl rfl ((x_playRow (d := 0) (sc := sc) (ar := ar) hF hX (row := row) (by omega)).up (by omega)) (fun rv g1 hc => ?_)
        rcases hc with ⟨hrk, rfl, sc1, ar1, rfl, hp, hs1, ha1⟩ | ⟨hrk, rfl, f, rfl⟩
        · skip
          have hmy := prow_ok hn.2.2.1 hrk.2.2
          have hX1 := hX.sm hs1 ha1
          have hlw1 : ∀ j, 0 ≤ j → j < 4 → ar1 32 j = law j := fun j h0 h1 => (congrFun (ha1 32 rfl) j).trans (hlw j h0 h1)
          obtain ⟨y, hp1, hp2, hp3, hwi, hsh, hcl⟩ := id hp
          have hTr := (svn_ok hF hmy).2.1
          have hlm := lsm_nn (svn_ok hF hmy)
          refine RQ.seg 2 (pc' := 37) (L' := [some (.ref 0), some (.int (iI row)), some (.int (iI j)), some (.int (iI 0))]) (st' := [.int (iI j)]) (g1 := (HW sc1 ar1 tx oc rl ou tl, q)) rfl ?_
          refine RQ.if1 (a := j) rfl rfl rfl (by omega) (fun (h10 : j ≠ 0) => ?_) (fun (h10 : ¬ j ≠ 0) => ?_)
          · skip
            refine RQ.seg 4 (pc' := 69) (L' := [some (.ref 0), some (.int (iI row)), some (.int (iI j)), some (.int (iI 0))]) (st' := [.ref 51]) (g1 := (HW sc1 ar1 tx oc rl ou tl, q)) rfl ?_
            refine RQ.call rfl rfl (x_backs hF hX1 hmy hp) ?_
            refine RQ.ret rfl rfl ?_
            refine ⟨?_, _, _, rfl, (Same.tr (by repeat (first | exact Same.rf | refine Same.us rfl ?_)) (hs1.w rfl)), (Same.tr (by repeat (first | exact Same.rf | refine Same.us rfl ?_)) (ha1.w rfl))⟩
            first | (exfalso; omega) | (congr 3; unfold sAll; first | (rw [if_neg (fun z => by first | omega | exact hrk z.2)]; done) | (rw [if_pos (by first | exact ⟨by omega, by omega, hrk⟩ | exact ⟨by omega, hrk⟩ | omega)]; (repeat (first | rw [if_pos (by omega)] | rw [if_neg (by omega)])); done))
          · skip
            refine RQ.seg 2 (pc' := 44) (L' := [some (.ref 0), some (.int (iI row)), some (.int (iI j)), some (.int (iI 0))]) (st' := [.ref 51]) (g1 := (HW sc1 ar1 tx oc rl ou tl, q)) rfl ?_
            refine RQ.seg 1 (pc' := 47) (L' := [some (.ref 0), some (.int (iI row)), some (.int (iI j)), some (.int (iI 0))]) (st' := [.int (iI (sc1 5112))]) (g1 := (HW sc1 ar1 tx oc rl ou tl, q)) rfl ?_
            refine RQ.to (L' := [some (.ref 0), some (.int (iI row)), some (.int (iI j)), some (.int (iI 0))]) (st' := [.int (iI (sT (svn nb W B (prow nb row))))]) rfl (by rw [show sc1 5112 = sT (svn nb W B (prow nb row)) from hp3.2.1]) ?_
            refine RQ.ret rfl rfl ?_
            refine ⟨?_, _, _, rfl, (Same.tr (by repeat (first | exact Same.rf | refine Same.us rfl ?_)) (hs1.w rfl)), (Same.tr (by repeat (first | exact Same.rf | refine Same.us rfl ?_)) (ha1.w rfl))⟩
            first | (exfalso; omega) | (congr 3; unfold sAll; first | (rw [if_neg (fun z => by first | omega | exact hrk z.2)]; done) | (rw [if_pos (by first | exact ⟨by omega, by omega, hrk⟩ | exact ⟨by omega, hrk⟩ | omega)]; (repeat (first | rw [if_pos (by omega)] | rw [if_neg (by omega)])); done))
        · skip
          refine RQ.seg 2 (pc' := 35) (L' := [some (.ref 0), some (.int (iI row)), some (.int (iI j)), some (.int (iI 0))]) (st' := [.int (iI (-1000000))]) (g1 := (HW sc (usc ar 78 f) tx oc rl ou tl, q)) rfl ?_
          refine RQ.ret rfl rfl ?_
          refine ⟨?_, _, _, rfl, (by repeat (first | exact Same.rf | refine Same.us rfl ?_)), (by repeat (first | exact Same.rf | refine Same.us rfl ?_))⟩
          first | (exfalso; omega) | (congr 3; unfold sAll; first | (rw [if_neg (fun z => by first | omega | exact hrk z.2)]; done) | (rw [if_pos (by first | exact ⟨by omega, by omega, hrk⟩ | exact ⟨by omega, hrk⟩ | omega)]; (repeat (first | rw [if_pos (by omega)] | rw [if_neg (by omega)])); done))
      · skip
        refine RQ.seg 3 (pc' := 24) (L' := [some (.ref 0), some (.int (iI row)), some (.int (iI j)), some (.int (iI 0))]) (st' := [.int (iI (-1000000))]) (g1 := (HW sc ar tx oc rl ou tl, q)) rfl ?_
        refine RQ.ret rfl rfl ?_
        refine ⟨?_, _, _, rfl, (by repeat (first | exact Same.rf | refine Same.us rfl ?_)), (by repeat (first | exact Same.rf | refine Same.us rfl ?_))⟩
        first | (exfalso; omega) | (congr 3; unfold sAll; first | (rw [if_neg (fun z => by first | omega | exact hrk z.2)]; done) | (rw [if_pos (by first | exact ⟨by omega, by omega, hrk⟩ | exact ⟨by omega, hrk⟩ | omega)]; (repeat (first | rw [if_pos (by omega)] | rw [if_neg (by omega)])); done))
theorem x_child {K : PK} {d : Nat} {sc : Nat → Int} {ar : Nat → Int → Int} {tx oc : Nat} {rl : Nat → Option Nat} {ou : Nat → Int64} {tl : List PO} {q : Nat × Nat} {row n j : Int} {nw nb : Int} {W B : Int → Int → Int} (hF : FrOK nw nb W B) (hX : FrX (sc 303) (sc 304) (ar 5) (ar 6) (ar 7) (ar 8) (ar 10) (ar 11) (ar 12) nw nb W B) {law : Int → Int} (hlw : ∀ j, 0 ≤ j → j < 4 → ar 32 j = law j) (hL : LwOK law) (rrow : -2147483648 ≤ row ∧ row < 2147483648) (rn : -2147483648 ≤ n ∧ n < 2147483648) (rj : -2147483648 ≤ j ∧ j < 2147483648) : CQ K (d + 6) 117 [.ref 0, .int (iI row), .int (iI n), .int (iI j)] (HW sc ar tx oc rl ou tl, q) (fun r g' => r = some (.int (iI (sChild nw nb W B row n j))) ∧ ∃ sc' ar', g' = (HW sc' ar' tx oc rl ou tl, q) ∧ Same scF sc sc' ∧ Same scA ar ar') := by
  have hn := hF.1
  have hm1 := hX.1
  have hm2 := hX.2.1
  refine CQ.of (own := 10) (n := 4) (ini := false) (rt := (some .int)) (cd := cd117) (by decide +kernel) rfl (by decide +kernel) rfl (Nat.le_of_ble_eq_true rfl) ?_
  refine RQ.seg 1 (pc' := 1) (L' := [some (.ref 0), some (.int (iI row)), some (.int (iI n)), some (.int (iI j))]) (st' := [.int (iI j)]) (g1 := (HW sc ar tx oc rl ou tl, q)) rfl ?_
  refine RQ.if1 (a := j) rfl rfl rfl (by omega) (fun (h1 : j < 0) => ?_) (fun (h1 : ¬ j < 0) => ?_)
  · skip
    refine RQ.seg 1 (pc' := 34) (L' := [some (.ref 0), some (.int (iI row)), some (.int (iI n)), some (.int (iI j))]) (st' := [.int (iI (-1000000))]) (g1 := (HW sc ar tx oc rl ou tl, q)) rfl ?_
    refine RQ.ret rfl rfl ?_
    refine ⟨?_, _, _, rfl, (by repeat (first | exact Same.rf | refine Same.us rfl ?_)), (by repeat (first | exact Same.rf | refine Same.us rfl ?_))⟩
    first | (exfalso; omega) | (congr 3; unfold sChild; first | (rw [if_neg (fun z => by first | omega | exact hrk z.2.1)]; done) | (rw [if_pos (⟨by omega, hrk, by omega⟩)]; (repeat (first | rw [if_pos (by omega)] | rw [if_neg (by omega)])); done))
  · skip
    refine RQ.seg 2 (pc' := 6) (L' := [some (.ref 0), some (.int (iI row)), some (.int (iI n)), some (.int (iI j))]) (st' := [.int (iI 2), .int (iI j)]) (g1 := (HW sc ar tx oc rl ou tl, q)) rfl ?_
    refine RQ.if2 (a := j) (b := 2) rfl rfl rfl rfl (by omega) (by omega) (fun (h2 : 2 < j) => ?_) (fun (h2 : ¬ 2 < j) => ?_)
    · skip
      refine RQ.seg 1 (pc' := 34) (L' := [some (.ref 0), some (.int (iI row)), some (.int (iI n)), some (.int (iI j))]) (st' := [.int (iI (-1000000))]) (g1 := (HW sc ar tx oc rl ou tl, q)) rfl ?_
      refine RQ.ret rfl rfl ?_
      refine ⟨?_, _, _, rfl, (by repeat (first | exact Same.rf | refine Same.us rfl ?_)), (by repeat (first | exact Same.rf | refine Same.us rfl ?_))⟩
      first | (exfalso; omega) | (congr 3; unfold sChild; first | (rw [if_neg (fun z => by first | omega | exact hrk z.2.1)]; done) | (rw [if_pos (⟨by omega, hrk, by omega⟩)]; (repeat (first | rw [if_pos (by omega)] | rw [if_neg (by omega)])); done))
    · skip
      refine RQ.seg 2 (pc' := 11) (L' := [some (.ref 0), some (.int (iI row)), some (.int (iI n)), some (.int (iI j))]) (st' := [.int (iI row), .ref 0]) (g1 := (HW sc ar tx oc rl ou tl, q)) rfl ?_
      refine RQ.callQ rfl rfl ((x_playRow (d := 0) (sc := sc) (ar := ar) hF hX (row := row) (by omega)).up (by omega)) (fun rv g1 hc => ?_)
      rcases hc with ⟨hrk, rfl, sc1, ar1, rfl, hp, hs1, ha1⟩ | ⟨hrk, rfl, f, rfl⟩
      · skip
        have hmy := prow_ok hn.2.2.1 hrk.2.2
        have hX1 := hX.sm hs1 ha1
        have hlw1 : ∀ j, 0 ≤ j → j < 4 → ar1 32 j = law j := fun j h0 h1 => (congrFun (ha1 32 rfl) j).trans (hlw j h0 h1)
        obtain ⟨y, hp1, hp2, hp3, hwi, hsh, hcl⟩ := id hp
        have hTr := (svn_ok hF hmy).2.1
        have hlm := lsm_nn (svn_ok hF hmy)
        refine RQ.seg 2 (pc' := 18) (L' := [some (.ref 0), some (.int (iI row)), some (.int (iI n)), some (.int (iI j))]) (st' := [.int (iI n)]) (g1 := (HW sc1 ar1 tx oc rl ou tl, q)) rfl ?_
        refine RQ.if1 (a := n) rfl rfl rfl (by omega) (fun (h3 : n < 0) => ?_) (fun (h3 : ¬ n < 0) => ?_)
        · skip
          refine RQ.seg 1 (pc' := 34) (L' := [some (.ref 0), some (.int (iI row)), some (.int (iI n)), some (.int (iI j))]) (st' := [.int (iI (-1000000))]) (g1 := (HW sc1 ar1 tx oc rl ou tl, q)) rfl ?_
          refine RQ.ret rfl rfl ?_
          refine ⟨?_, _, _, rfl, (Same.tr (by repeat (first | exact Same.rf | refine Same.us rfl ?_)) (hs1.w rfl)), (Same.tr (by repeat (first | exact Same.rf | refine Same.us rfl ?_)) (ha1.w rfl))⟩
          first | (exfalso; omega) | (congr 3; unfold sChild; first | (rw [if_neg (fun z => by first | omega | exact hrk z.2.1)]; done) | (rw [if_pos (⟨by omega, hrk, by omega⟩)]; (repeat (first | rw [if_pos (by omega)] | rw [if_neg (by omega)])); done))
        · skip
          refine RQ.seg 3 (pc' := 26) (L' := [some (.ref 0), some (.int (iI row)), some (.int (iI n)), some (.int (iI j))]) (st' := [.ref 51, .int (iI n)]) (g1 := (HW sc1 ar1 tx oc rl ou tl, q)) rfl ?_
          refine RQ.seg 1 (pc' := 29) (L' := [some (.ref 0), some (.int (iI row)), some (.int (iI n)), some (.int (iI j))]) (st' := [.int (iI (sc1 5112)), .int (iI n)]) (g1 := (HW sc1 ar1 tx oc rl ou tl, q)) rfl ?_
          refine RQ.to (L' := [some (.ref 0), some (.int (iI row)), some (.int (iI n)), some (.int (iI j))]) (st' := [.int (iI (sT (svn nb W B (prow nb row)))), .int (iI n)]) rfl (by rw [show sc1 5112 = sT (svn nb W B (prow nb row)) from hp3.2.1]) ?_
          refine RQ.if2 (a := n) (b := (sT (svn nb W B (prow nb row)))) rfl rfl rfl rfl (by omega) (by omega) (fun (h4 : n < sT (svn nb W B (prow nb row))) => ?_) (fun (h4 : ¬ n < sT (svn nb W B (prow nb row))) => ?_)
          · skip
            refine RQ.seg 1 (pc' := 36) (L' := [some (.ref 0), some (.int (iI row)), some (.int (iI n)), some (.int (iI j))]) (st' := [.int (iI j)]) (g1 := (HW sc1 ar1 tx oc rl ou tl, q)) rfl ?_
            rcases (show j = 0 ∨ j = 1 ∨ (j ≠ 0 ∧ j ≠ 1) by omega) with h5 | h5 | h5
            · skip
              refine RQ.lsw (z := j) (o := 28) rfl rfl (by omega) rfl (by show (if (0 : Int) = j then (28 : Int) else if (1 : Int) = j then (38 : Int) else 48) = _; repeat (first | rw [if_pos (by omega)] | rw [if_neg (by omega)])) rfl ?_
              refine RQ.seg 4 (pc' := 72) (L' := [some (.ref 0), some (.int (iI row)), some (.int (iI n)), some (.int (iI j))]) (st' := [.int (iI n), .ref 60]) (g1 := (HW sc1 ar1 tx oc rl ou tl, q)) rfl ?_
              refine RQ.ialdv (z := n) (v := (sA (svn nb W B (prow nb row)) n)) rfl rfl rfl (by omega) (by decide) (hp3.2.2.2.2 n (by omega) (by rw [hp3.2.1]; omega)).1 ?_
              refine RQ.ret rfl rfl ?_
              refine ⟨?_, _, _, rfl, (Same.tr (by repeat (first | exact Same.rf | refine Same.us rfl ?_)) (hs1.w rfl)), (Same.tr (by repeat (first | exact Same.rf | refine Same.us rfl ?_)) (ha1.w rfl))⟩
              first | (exfalso; omega) | (congr 3; unfold sChild; first | (rw [if_neg (fun z => by first | omega | exact hrk z.2.1)]; done) | (rw [if_pos (⟨by omega, hrk, by omega⟩)]; (repeat (first | rw [if_pos (by omega)] | rw [if_neg (by omega)])); done))
            · skip
              refine RQ.lsw (z := j) (o := 38) rfl rfl (by omega) rfl (by show (if (0 : Int) = j then (28 : Int) else if (1 : Int) = j then (38 : Int) else 48) = _; repeat (first | rw [if_pos (by omega)] | rw [if_neg (by omega)])) rfl ?_
              refine RQ.seg 4 (pc' := 82) (L' := [some (.ref 0), some (.int (iI row)), some (.int (iI n)), some (.int (iI j))]) (st' := [.int (iI n), .ref 61]) (g1 := (HW sc1 ar1 tx oc rl ou tl, q)) rfl ?_
              refine RQ.ialdv (z := n) (v := (sB (svn nb W B (prow nb row)) n)) rfl rfl rfl (by omega) (by decide) (hp3.2.2.2.2 n (by omega) (by rw [hp3.2.1]; omega)).2.1 ?_
              refine RQ.ret rfl rfl ?_
              refine ⟨?_, _, _, rfl, (Same.tr (by repeat (first | exact Same.rf | refine Same.us rfl ?_)) (hs1.w rfl)), (Same.tr (by repeat (first | exact Same.rf | refine Same.us rfl ?_)) (ha1.w rfl))⟩
              first | (exfalso; omega) | (congr 3; unfold sChild; first | (rw [if_neg (fun z => by first | omega | exact hrk z.2.1)]; done) | (rw [if_pos (⟨by omega, hrk, by omega⟩)]; (repeat (first | rw [if_pos (by omega)] | rw [if_neg (by omega)])); done))
            · skip
              refine RQ.lsw (z := j) (o := 48) rfl rfl (by omega) rfl (by show (if (0 : Int) = j then (28 : Int) else if (1 : Int) = j then (38 : Int) else 48) = _; repeat (first | rw [if_pos (by omega)] | rw [if_neg (by omega)])) rfl ?_
              refine RQ.seg 4 (pc' := 92) (L' := [some (.ref 0), some (.int (iI row)), some (.int (iI n)), some (.int (iI j))]) (st' := [.int (iI n), .ref 62]) (g1 := (HW sc1 ar1 tx oc rl ou tl, q)) rfl ?_
              refine RQ.ialdv (z := n) (v := (sC (svn nb W B (prow nb row)) n)) rfl rfl rfl (by omega) (by decide) (hp3.2.2.2.2 n (by omega) (by rw [hp3.2.1]; omega)).2.2 ?_
              refine RQ.ret rfl rfl ?_
              refine ⟨?_, _, _, rfl, (Same.tr (by repeat (first | exact Same.rf | refine Same.us rfl ?_)) (hs1.w rfl)), (Same.tr (by repeat (first | exact Same.rf | refine Same.us rfl ?_)) (ha1.w rfl))⟩
              first | (exfalso; omega) | (congr 3; unfold sChild; first | (rw [if_neg (fun z => by first | omega | exact hrk z.2.1)]; done) | (rw [if_pos (⟨by omega, hrk, by omega⟩)]; (repeat (first | rw [if_pos (by omega)] | rw [if_neg (by omega)])); done))
          · skip
            refine RQ.seg 1 (pc' := 34) (L' := [some (.ref 0), some (.int (iI row)), some (.int (iI n)), some (.int (iI j))]) (st' := [.int (iI (-1000000))]) (g1 := (HW sc1 ar1 tx oc rl ou tl, q)) rfl ?_
            refine RQ.ret rfl rfl ?_
            refine ⟨?_, _, _, rfl, (Same.tr (by repeat (first | exact Same.rf | refine Same.us rfl ?_)) (hs1.w rfl)), (Same.tr (by repeat (first | exact Same.rf | refine Same.us rfl ?_)) (ha1.w rfl))⟩
            first | (exfalso; omega) | (congr 3; unfold sChild; first | (rw [if_neg (fun z => by first | omega | exact hrk z.2.1)]; done) | (rw [if_pos (⟨by omega, hrk, by omega⟩)]; (repeat (first | rw [if_pos (by omega)] | rw [if_neg (by omega)])); done))
      · skip
        refine RQ.seg 2 (pc' := 34) (L' := [some (.ref 0), some (.int (iI row)), some (.int (iI n)), some (.int (iI j))]) (st' := [.int (iI (-1000000))]) (g1 := (HW sc (usc ar 78 f) tx oc rl ou tl, q)) rfl ?_
        refine RQ.ret rfl rfl ?_
        refine ⟨?_, _, _, rfl, (by repeat (first | exact Same.rf | refine Same.us rfl ?_)), (by repeat (first | exact Same.rf | refine Same.us rfl ?_))⟩
        first | (exfalso; omega) | (congr 3; unfold sChild; first | (rw [if_neg (fun z => by first | omega | exact hrk z.2.1)]; done) | (rw [if_pos (⟨by omega, hrk, by omega⟩)]; (repeat (first | rw [if_pos (by omega)] | rw [if_neg (by omega)])); done))
