/-! the class reads a rule: clauses, by wip/tools -/
/-! the class reads a rule: clauses -/
theorem pre_pre {c c' : List Int} {r : RS} : pre c (pre c' r) = pre (c ++ c') r := by unfold pre; rw [List.append_assoc]
theorem RX.cg {tp : List Int} {r r' : RS} {sc : Nat → Int} {ar : Nat → Int → Int} (h : RX tp r sc ar) (e : r'.1 = r.1) (hE : ¬ r.1 = -1) : RX tp r' sc ar := ⟨h.1, h.2.1, h.2.2.1, h.2.2.2.1.trans e.symm, by rw [e]; exact h.2.2.2.2.1, fun z => absurd (e.symm.trans z) hE⟩
def rTh (tp : List Int) (f : RF) (nt : Nat) (r : RS) : RS := rsq (rap (rsq (rsq r (f nt 0)) (rex tp 63)) (-11)) (f 2 0)
theorem rTh_b {tp : List Int} {f : RF} {nt : Nat} {r : RS} (h : ¬ r.1 = -1) : (rTh tp f nt r).1 = r.1 := by
  unfold rTh
  rw [rsq_b (r := r) h, rsq_b (r := r) h, rsq_b (show ¬ (rap r (-11)).1 = -1 from h)]
  rfl
theorem rTh_g {tp : List Int} {f : RF} {nt : Nat} {r : RS} (h : r.1 = -1) : rTh tp f nt r = pre r.2.2 (rThen tp f nt r.2.1) := by
  unfold rTh rThen
  rw [rsq_p h, pre_sq, pre_ap, pre_sq]
theorem rTh_1 {tp : List Int} {f : RF} {nt : Nat} {a : Int} {c : List Int} : rTh tp f nt (-1, a, c) = pre c (rThen tp f nt a) := rTh_g rfl
theorem th1 {tp : List Int} {f : RF} (hf : RfOK tp f) {nt : Nat} {r : RS} (h : r.1 = -1 → (0 ≤ r.2.1 ∧ r.2.1 ≤ (tp.length : Int)) ∧ (r.2.2.length : Int) ≤ r.2.1) (z : (rsq (rsq r (f nt 0)) (rex tp 63)).1 = -1) : ((rsq (rsq r (f nt 0)) (rex tp 63)).2.2.length : Int) + 1 ≤ (rsq (rsq r (f nt 0)) (rex tp 63)).2.1 ∧ r.1 = -1 ∧ r.2.1 + 1 ≤ (rsq (rsq r (f nt 0)) (rex tp 63)).2.1 ∧ (rsq (rsq r (f nt 0)) (rex tp 63)).2.1 ≤ (tp.length : Int) := by
  rcases Decidable.em (r.1 = -1) with he | hE
  · obtain ⟨h1, h2⟩ := h he
    have hn := njs_r nt
    rw [rsq_p he, pre_sq] at z ⊢
    have hg : Rg tp r.2.1 (njs nt + 1) (0 + 1) (rsq (f nt 0 r.2.1) (rex tp 63)) := Rg.sq (hf.at nt 0 h1) (fun b b0 b1 => Rg.ex (by omega) (by omega))
    have h3 := hg.2 z
    refine ⟨?_, he, ?_, ?_⟩
    · show ((r.2.2 ++ (rsq (f nt 0 r.2.1) (rex tp 63)).2.2).length : Int) + 1 ≤ (rsq (f nt 0 r.2.1) (rex tp 63)).2.1
      rw [List.length_append]
      omega
    · show r.2.1 + 1 ≤ (rsq (f nt 0 r.2.1) (rex tp 63)).2.1; omega
    · exact h3.2.1
  · rw [rsq_b (r := r) hE, rsq_b (r := r) hE] at z
    exact absurd z hE
theorem th2 {tp : List Int} {f : RF} (hf : RfOK tp f) {nt : Nat} {r : RS} (h : r.1 = -1 → (0 ≤ r.2.1 ∧ r.2.1 ≤ (tp.length : Int)) ∧ (r.2.2.length : Int) + 1 ≤ r.2.1) (z : (rTh tp f nt r).1 = -1) : ((rTh tp f nt r).2.2.length : Int) + 1 ≤ (rTh tp f nt r).2.1 := by
  rcases Decidable.em (r.1 = -1) with he | hE
  · obtain ⟨h1, h2⟩ := h he
    rw [rTh_g he] at z ⊢
    exact pre_sl (Rg.th hf h1) h2 z
  · rw [rTh_b hE] at z
    exact absurd z hE
theorem x_then0 {K : PK} {D : Nat} {sc : Nat → Int} {ar : Nat → Int → Int} {tx oc : Nat} {rl : Nat → Option Nat} {ou : Nat → Int64} {tl : List PO} {q : Nat × Nat} {tp : List Int} {r0 : RS} (ht : TpOK tp) (hK3 : K 3 = some (6, zA kc3)) (hK13 : K 13 = some (3, zA kc13)) {m : Nat} (hP : XP K tp m) (hD : 45 ≤ D) (hR : RX tp r0 sc ar) {s1 : Int} (hF : r0.1 = -1 → 16 * ((tp.length : Int) - r0.2.1) + 6 ≤ (m : Int) ∧ (r0.2.2.length : Int) + 1 ≤ r0.2.1) : RQ K D 7 false none cd84 64 [some (.ref 26), some (.int (iI s1)), some (.int (iI 0))] [] (HW sc ar tx oc rl ou tl, q) (QX tp (rap (rTh tp (rd tp m) 5 r0) (-12)) sc ar tx oc rl ou tl q) := by
  obtain ⟨p0, p1, p2, p3, p8, p4, p10, p5, p12, l6, l7, l8, l9, l11⟩ := hP
  have ht1 := ht.1
  obtain ⟨⟨hs, hl⟩, hA, hZ, hW, hWr, hG⟩ := id hR
  have hB : r0.1 = -1 → (0 ≤ r0.2.1 ∧ r0.2.1 ≤ (tp.length : Int)) ∧ (r0.2.2.length : Int) + 1 ≤ r0.2.1 := fun z => by have := hG z; have := hF z; omega
  refine RQ.seg 3 (pc' := 67) (L' := [some (.ref 26), some (.int (iI s1)), some (.int (iI 0))]) (st' := [.int (iI 0), .int (iI 0), .ref 26]) (g1 := (HW sc ar tx oc rl ou tl, q)) rfl ?_
  refine RQ.callQ rfl rfl (CQ.up (p5 (D - 1) (6) (0) (r0) _ _ _ _ _ _ _ _ (by omega) (by omega) (by omega) hR (fun z => by have := hF z; show 16 * ((tp.length : Int) - r0.2.1) + 6 ≤ (m : Int); omega)) (by omega)) (fun rv g1 hc9 => ?_)
  obtain ⟨rfl, sc1, ar1, rfl, hs1, ha1, hR_1⟩ := hc9
  obtain ⟨⟨hs_1, hl_1⟩, hA_1, hZ_1, hW_1, hWr_1, hG_1⟩ := id hR_1
  have hS_1 : Same ruF sc sc1 := hs1
  have hT_1 : Same ruA ar ar1 := ha1
  refine RQ.seg 2 (pc' := 73) (L' := [some (.ref 26), some (.int (iI s1)), some (.int (iI 0))]) (st' := [.int (iI 63), .ref 26]) (g1 := (HW sc1 ar1 tx oc rl ou tl, q)) rfl ?_
  refine RQ.callQ rfl rfl (CQ.up (x_exp (d := 0) (r0 := rsq (r0) (rd tp m 5 (0))) (c := 63) ht hR_1 (by omega)) (by omega)) (fun rv g1 hc9 => ?_)
  obtain ⟨rfl, sc2, ar2, rfl, hs2, ha2, hR_2⟩ := hc9
  obtain ⟨⟨hs_2, hl_2⟩, hA_2, hZ_2, hW_2, hWr_2, hG_2⟩ := id hR_2
  have hS_2 : Same ruF sc sc2 := Same.tr hS_1 (Same.tr (by repeat (first | exact Same.rf | refine Same.us rfl ?_)) hs2)
  have hT_2 : Same ruA ar ar2 := Same.tr hT_1 (Same.tr (by repeat (first | exact Same.rf | refine Same.us rfl ?_)) ha2)
  have hT1 := th1 (rd_ok (tp := tp) m) (nt := 5) (r := r0) (fun z => ⟨(hB z).1, by have := hB z; omega⟩)
  refine RQ.seg 3 (pc' := 82) (L' := [some (.ref 26), some (.int (iI s1)), some (.int (iI 0))]) (st' := [.int (iI (-11)), .ref 27]) (g1 := (HW sc2 ar2 tx oc rl ou tl, q)) rfl ?_
  refine RQ.callQ rfl rfl (CQ.up (x_app (d := 0) (r0 := rsq (rsq (r0) (rd tp m 5 (0))) (rex tp 63)) (x := (-11)) ht hR_2 (by omega) (fun z => (hT1 z).1)) (by omega)) (fun rv g1 hc9 => ?_)
  obtain ⟨rfl, sc3, ar3, rfl, hs3, ha3, hR_3⟩ := hc9
  obtain ⟨⟨hs_3, hl_3⟩, hA_3, hZ_3, hW_3, hWr_3, hG_3⟩ := id hR_3
  have hS_3 : Same ruF sc sc3 := Same.tr hS_2 (Same.tr (by repeat (first | exact Same.rf | refine Same.us rfl ?_)) hs3)
  have hT_3 : Same ruA ar ar3 := Same.tr hT_2 (Same.tr (by repeat (first | exact Same.rf | refine Same.us rfl ?_)) ha3)
  refine RQ.seg 2 (pc' := 87) (L' := [some (.ref 26), some (.int (iI s1)), some (.int (iI 0))]) (st' := [.int (iI 0), .ref 26]) (g1 := (HW sc3 ar3 tx oc rl ou tl, q)) rfl ?_
  refine RQ.callQ rfl rfl (CQ.up (p2 (D - 1) (6) (0) (rap (rsq (rsq (r0) (rd tp m 5 (0))) (rex tp 63)) ((-11))) _ _ _ _ _ _ _ _ (by omega) (by omega) (by omega) hR_3 (fun z => by have z1 := hT1 z; have z2 := hF z1.2.1; show 16 * ((tp.length : Int) - (rsq (rsq r0 (rd tp m 5 (0))) (rex tp 63)).2.1) + 3 ≤ (m : Int); omega)) (by omega)) (fun rv g1 hc9 => ?_)
  obtain ⟨rfl, sc4, ar4, rfl, hs4, ha4, hR_4⟩ := hc9
  obtain ⟨⟨hs_4, hl_4⟩, hA_4, hZ_4, hW_4, hWr_4, hG_4⟩ := id hR_4
  have hS_4 : Same ruF sc sc4 := Same.tr hS_3 (Same.tr (by repeat (first | exact Same.rf | refine Same.us rfl ?_)) hs4)
  have hT_4 : Same ruA ar ar4 := Same.tr hT_3 (Same.tr (by repeat (first | exact Same.rf | refine Same.us rfl ?_)) ha4)
  refine RQ.seg 3 (pc' := 96) (L' := [some (.ref 26), some (.int (iI s1)), some (.int (iI 0))]) (st' := [.int (iI (-12)), .ref 27]) (g1 := (HW sc4 ar4 tx oc rl ou tl, q)) rfl ?_
  refine RQ.callQ rfl rfl (CQ.up (x_app (d := 0) (r0 := rsq (rap (rsq (rsq (r0) (rd tp m 5 (0))) (rex tp 63)) ((-11))) (rd tp m 2 (0))) (x := (-12)) ht hR_4 (by omega) (th2 (rd_ok (tp := tp) m) (nt := 5) (r := r0) hB)) (by omega)) (fun rv g1 hc9 => ?_)
  obtain ⟨rfl, sc5, ar5, rfl, hs5, ha5, hR_5⟩ := hc9
  obtain ⟨⟨hs_5, hl_5⟩, hA_5, hZ_5, hW_5, hWr_5, hG_5⟩ := id hR_5
  have hS_5 : Same ruF sc sc5 := Same.tr hS_4 (Same.tr (by repeat (first | exact Same.rf | refine Same.us rfl ?_)) hs5)
  have hT_5 : Same ruA ar ar5 := Same.tr hT_4 (Same.tr (by repeat (first | exact Same.rf | refine Same.us rfl ?_)) ha5)
  refine RQ.ret rfl rfl ?_
  exact ⟨rfl, _, _, rfl, hS_5, hT_5, hR_5⟩
theorem x_then1 {K : PK} {D : Nat} {sc : Nat → Int} {ar : Nat → Int → Int} {tx oc : Nat} {rl : Nat → Option Nat} {ou : Nat → Int64} {tl : List PO} {q : Nat × Nat} {tp : List Int} {r0 : RS} (ht : TpOK tp) (hK3 : K 3 = some (6, zA kc3)) (hK13 : K 13 = some (3, zA kc13)) {m : Nat} (hP : XP K tp m) (hD : 45 ≤ D) (hR : RX tp r0 sc ar) {s1 : Int} (hF : r0.1 = -1 → 16 * ((tp.length : Int) - r0.2.1) + 6 ≤ (m : Int) ∧ (r0.2.2.length : Int) + 1 ≤ r0.2.1) : RQ K D 7 false none cd84 64 [some (.ref 26), some (.int (iI s1)), some (.int (iI 1))] [] (HW sc ar tx oc rl ou tl, q) (QX tp (rap (rTh tp (rd tp m) 12 r0) (-12)) sc ar tx oc rl ou tl q) := by
  obtain ⟨p0, p1, p2, p3, p8, p4, p10, p5, p12, l6, l7, l8, l9, l11⟩ := hP
  have ht1 := ht.1
  obtain ⟨⟨hs, hl⟩, hA, hZ, hW, hWr, hG⟩ := id hR
  have hB : r0.1 = -1 → (0 ≤ r0.2.1 ∧ r0.2.1 ≤ (tp.length : Int)) ∧ (r0.2.2.length : Int) + 1 ≤ r0.2.1 := fun z => by have := hG z; have := hF z; omega
  refine RQ.seg 3 (pc' := 67) (L' := [some (.ref 26), some (.int (iI s1)), some (.int (iI 1))]) (st' := [.int (iI 1), .int (iI 0), .ref 26]) (g1 := (HW sc ar tx oc rl ou tl, q)) rfl ?_
  refine RQ.callQ rfl rfl (CQ.up (p12 (D - 1) (6) (0) (r0) _ _ _ _ _ _ _ _ (by omega) (by omega) (by omega) hR (fun z => by have := hF z; show 16 * ((tp.length : Int) - r0.2.1) + 3 ≤ (m : Int); omega)) (by omega)) (fun rv g1 hc9 => ?_)
  obtain ⟨rfl, sc1, ar1, rfl, hs1, ha1, hR_1⟩ := hc9
  obtain ⟨⟨hs_1, hl_1⟩, hA_1, hZ_1, hW_1, hWr_1, hG_1⟩ := id hR_1
  have hS_1 : Same ruF sc sc1 := hs1
  have hT_1 : Same ruA ar ar1 := ha1
  refine RQ.seg 2 (pc' := 73) (L' := [some (.ref 26), some (.int (iI s1)), some (.int (iI 1))]) (st' := [.int (iI 63), .ref 26]) (g1 := (HW sc1 ar1 tx oc rl ou tl, q)) rfl ?_
  refine RQ.callQ rfl rfl (CQ.up (x_exp (d := 0) (r0 := rsq (r0) (rd tp m 12 (0))) (c := 63) ht hR_1 (by omega)) (by omega)) (fun rv g1 hc9 => ?_)
  obtain ⟨rfl, sc2, ar2, rfl, hs2, ha2, hR_2⟩ := hc9
  obtain ⟨⟨hs_2, hl_2⟩, hA_2, hZ_2, hW_2, hWr_2, hG_2⟩ := id hR_2
  have hS_2 : Same ruF sc sc2 := Same.tr hS_1 (Same.tr (by repeat (first | exact Same.rf | refine Same.us rfl ?_)) hs2)
  have hT_2 : Same ruA ar ar2 := Same.tr hT_1 (Same.tr (by repeat (first | exact Same.rf | refine Same.us rfl ?_)) ha2)
  have hT1 := th1 (rd_ok (tp := tp) m) (nt := 12) (r := r0) (fun z => ⟨(hB z).1, by have := hB z; omega⟩)
  refine RQ.seg 3 (pc' := 82) (L' := [some (.ref 26), some (.int (iI s1)), some (.int (iI 1))]) (st' := [.int (iI (-11)), .ref 27]) (g1 := (HW sc2 ar2 tx oc rl ou tl, q)) rfl ?_
  refine RQ.callQ rfl rfl (CQ.up (x_app (d := 0) (r0 := rsq (rsq (r0) (rd tp m 12 (0))) (rex tp 63)) (x := (-11)) ht hR_2 (by omega) (fun z => (hT1 z).1)) (by omega)) (fun rv g1 hc9 => ?_)
  obtain ⟨rfl, sc3, ar3, rfl, hs3, ha3, hR_3⟩ := hc9
  obtain ⟨⟨hs_3, hl_3⟩, hA_3, hZ_3, hW_3, hWr_3, hG_3⟩ := id hR_3
  have hS_3 : Same ruF sc sc3 := Same.tr hS_2 (Same.tr (by repeat (first | exact Same.rf | refine Same.us rfl ?_)) hs3)
  have hT_3 : Same ruA ar ar3 := Same.tr hT_2 (Same.tr (by repeat (first | exact Same.rf | refine Same.us rfl ?_)) ha3)
  refine RQ.seg 2 (pc' := 87) (L' := [some (.ref 26), some (.int (iI s1)), some (.int (iI 1))]) (st' := [.int (iI 0), .ref 26]) (g1 := (HW sc3 ar3 tx oc rl ou tl, q)) rfl ?_
  refine RQ.callQ rfl rfl (CQ.up (p2 (D - 1) (6) (0) (rap (rsq (rsq (r0) (rd tp m 12 (0))) (rex tp 63)) ((-11))) _ _ _ _ _ _ _ _ (by omega) (by omega) (by omega) hR_3 (fun z => by have z1 := hT1 z; have z2 := hF z1.2.1; show 16 * ((tp.length : Int) - (rsq (rsq r0 (rd tp m 12 (0))) (rex tp 63)).2.1) + 3 ≤ (m : Int); omega)) (by omega)) (fun rv g1 hc9 => ?_)
  obtain ⟨rfl, sc4, ar4, rfl, hs4, ha4, hR_4⟩ := hc9
  obtain ⟨⟨hs_4, hl_4⟩, hA_4, hZ_4, hW_4, hWr_4, hG_4⟩ := id hR_4
  have hS_4 : Same ruF sc sc4 := Same.tr hS_3 (Same.tr (by repeat (first | exact Same.rf | refine Same.us rfl ?_)) hs4)
  have hT_4 : Same ruA ar ar4 := Same.tr hT_3 (Same.tr (by repeat (first | exact Same.rf | refine Same.us rfl ?_)) ha4)
  refine RQ.seg 3 (pc' := 96) (L' := [some (.ref 26), some (.int (iI s1)), some (.int (iI 1))]) (st' := [.int (iI (-12)), .ref 27]) (g1 := (HW sc4 ar4 tx oc rl ou tl, q)) rfl ?_
  refine RQ.callQ rfl rfl (CQ.up (x_app (d := 0) (r0 := rsq (rap (rsq (rsq (r0) (rd tp m 12 (0))) (rex tp 63)) ((-11))) (rd tp m 2 (0))) (x := (-12)) ht hR_4 (by omega) (th2 (rd_ok (tp := tp) m) (nt := 12) (r := r0) hB)) (by omega)) (fun rv g1 hc9 => ?_)
  obtain ⟨rfl, sc5, ar5, rfl, hs5, ha5, hR_5⟩ := hc9
  obtain ⟨⟨hs_5, hl_5⟩, hA_5, hZ_5, hW_5, hWr_5, hG_5⟩ := id hR_5
  have hS_5 : Same ruF sc sc5 := Same.tr hS_4 (Same.tr (by repeat (first | exact Same.rf | refine Same.us rfl ?_)) hs5)
  have hT_5 : Same ruA ar ar5 := Same.tr hT_4 (Same.tr (by repeat (first | exact Same.rf | refine Same.us rfl ?_)) ha5)
  refine RQ.ret rfl rfl ?_
  exact ⟨rfl, _, _, rfl, hS_5, hT_5, hR_5⟩
theorem x_body {K : PK} {D : Nat} {sc : Nat → Int} {ar : Nat → Int → Int} {tx oc : Nat} {rl : Nat → Option Nat} {ou : Nat → Int64} {tl : List PO} {q : Nat × Nat} {tp : List Int} {r0 : RS} (ht : TpOK tp) (hK3 : K 3 = some (6, zA kc3)) (hK13 : K 13 = some (3, zA kc13)) {m : Nat} (hP : XP K tp m) (hD : 45 ≤ D) (hR : RX tp r0 sc ar) (hF : r0.1 = -1 → 16 * ((tp.length : Int) - r0.2.1) + 6 ≤ (m : Int) ∧ (r0.2.2.length : Int) + 1 ≤ r0.2.1) (he : r0.1 = -1) : RQ K D 7 false none cd84 12 [some (.ref 26), none, none] [] (HW sc ar tx oc rl ou tl, q) (QX tp (rap (rsq r0 (rBody tp (rd tp m))) (-12)) sc ar tx oc rl ou tl q) := by
  obtain ⟨p0, p1, p2, p3, p8, p4, p10, p5, p12, l6, l7, l8, l9, l11⟩ := id hP
  have ht1 := ht.1
  obtain ⟨⟨hs, hl⟩, hA, hZ, hW, hWr, hG⟩ := id hR
  obtain ⟨g1, g2, g3, g4⟩ := hG he
  have hw1 : sc 2602 = -1 := hW.trans he
  have hsk := sk_r (tp := tp) (p := r0.2.1) (by omega)
  have hlr := tch_r ht (sk tp r0.2.1)
  have hlk : 0 ≤ lk tp r0.2.1 ∧ lk tp r0.2.1 ≤ 255 := hlr
  have hF9 := hF he
  refine RQ.seg 1 (pc' := 13) (L' := [some (.ref 26), none, none]) (st' := [.ref 26]) (g1 := (HW sc ar tx oc rl ou tl, q)) rfl ?_
  refine RQ.call rfl rfl (CallR.up (d := 1) (x_look26 (d := 0) (sc := sc) (ar := ar) (a := r0.2.1) ht hs hl g1 (by omega)) (by omega)) ?_
  refine RQ.seg 3 (pc' := 20) (L' := [some (.ref 26), some (.int (iI (lk tp r0.2.1))), none]) (st' := [.int (iI 33), .int (iI (lk tp r0.2.1))]) (g1 := (HW (usc sc 2601 (sk tp r0.2.1)) ar tx oc rl ou tl, q)) rfl ?_
  refine RQ.if2 (a := (lk tp r0.2.1)) (b := 33) rfl rfl rfl rfl (by omega) (by omega) (fun (h1 : lk tp r0.2.1 = 33) => ?_) (fun (h1 : ¬ lk tp r0.2.1 = 33) => ?_)
  · skip
    refine RQ.seg 6 (pc' := 64) (L' := [some (.ref 26), some (.int (iI (lk tp r0.2.1))), some (.int (iI 0))]) (st' := []) (g1 := (HW (usc sc 2601 (sk tp r0.2.1)) ar tx oc rl ou tl, q)) rfl ?_
    rw [show rap (rsq r0 (rBody tp (rd tp m))) (-12) = rap (rTh tp (rd tp m) 5 ((-1, sk tp r0.2.1, r0.2.2) : RS)) (-12) by rw [rsq_p he, rTh_1, show rBody tp (rd tp m) r0.2.1 = rThen tp (rd tp m) 5 (sk tp r0.2.1) by unfold rBody; rw [if_pos (by omega)]; unfold rThen; rw [rd_sk]]]
    exact RQ.im (x_then0 ht hK3 hK13 hP hD (r0 := ((-1, sk tp r0.2.1, r0.2.2) : RS)) (sc := usc sc 2601 (sk tp r0.2.1)) (ar := ar) (RX.mv hR he (by omega)) (fun _ => ⟨by show 16 * ((tp.length : Int) - sk tp r0.2.1) + 6 ≤ (m : Int); omega, by show (r0.2.2.length : Int) + 1 ≤ sk tp r0.2.1; omega⟩)) (fun v g h => QX.tr (by repeat (first | exact Same.rf | refine Same.us rfl ?_)) (by repeat (first | exact Same.rf | refine Same.us rfl ?_)) h)
  · skip
    refine RQ.seg 2 (pc' := 26) (L' := [some (.ref 26), some (.int (iI (lk tp r0.2.1))), none]) (st' := [.int (iI 40), .int (iI (lk tp r0.2.1))]) (g1 := (HW (usc sc 2601 (sk tp r0.2.1)) ar tx oc rl ou tl, q)) rfl ?_
    refine RQ.if2 (a := (lk tp r0.2.1)) (b := 40) rfl rfl rfl rfl (by omega) (by omega) (fun (h2 : lk tp r0.2.1 = 40) => ?_) (fun (h2 : ¬ lk tp r0.2.1 = 40) => ?_)
    · skip
      refine RQ.seg 6 (pc' := 64) (L' := [some (.ref 26), some (.int (iI (lk tp r0.2.1))), some (.int (iI 0))]) (st' := []) (g1 := (HW (usc sc 2601 (sk tp r0.2.1)) ar tx oc rl ou tl, q)) rfl ?_
      rw [show rap (rsq r0 (rBody tp (rd tp m))) (-12) = rap (rTh tp (rd tp m) 5 ((-1, sk tp r0.2.1, r0.2.2) : RS)) (-12) by rw [rsq_p he, rTh_1, show rBody tp (rd tp m) r0.2.1 = rThen tp (rd tp m) 5 (sk tp r0.2.1) by unfold rBody; rw [if_pos (by omega)]; unfold rThen; rw [rd_sk]]]
      exact RQ.im (x_then0 ht hK3 hK13 hP hD (r0 := ((-1, sk tp r0.2.1, r0.2.2) : RS)) (sc := usc sc 2601 (sk tp r0.2.1)) (ar := ar) (RX.mv hR he (by omega)) (fun _ => ⟨by show 16 * ((tp.length : Int) - sk tp r0.2.1) + 6 ≤ (m : Int); omega, by show (r0.2.2.length : Int) + 1 ≤ sk tp r0.2.1; omega⟩)) (fun v g h => QX.tr (by repeat (first | exact Same.rf | refine Same.us rfl ?_)) (by repeat (first | exact Same.rf | refine Same.us rfl ?_)) h)
    · skip
      refine RQ.seg 7 (pc' := 41) (L' := [some (.ref 26), some (.int (iI (lk tp r0.2.1))), some (.int (iI 1))]) (st' := [.int (iI 0), .ref 26]) (g1 := (HW (usc sc 2601 (sk tp r0.2.1)) ar tx oc rl ou tl, q)) rfl ?_
      refine RQ.callQ rfl rfl (CQ.up (p2 (D - 1) (6) (0) (((-1, sk tp r0.2.1, r0.2.2) : RS)) _ _ _ _ _ _ _ _ (by omega) (by omega) (by omega) (RX.mv hR he (by omega)) (fun _ => by show 16 * ((tp.length : Int) - sk tp r0.2.1) + 3 ≤ (m : Int); omega)) (by omega)) (fun rv g1 hc9 => ?_)
      obtain ⟨rfl, sc1, ar1, rfl, hs1, ha1, hR_1⟩ := hc9
      obtain ⟨⟨hs_1, hl_1⟩, hA_1, hZ_1, hW_1, hWr_1, hG_1⟩ := id hR_1
      have hS_1 : Same ruF sc sc1 := Same.tr Same.rf (Same.tr (by repeat (first | exact Same.rf | refine Same.us rfl ?_)) hs1)
      have hT_1 : Same ruA ar ar1 := Same.tr Same.rf (Same.tr (by repeat (first | exact Same.rf | refine Same.us rfl ?_)) ha1)
      rw [show rsq ((-1, sk tp r0.2.1, r0.2.2) : RS) (rd tp m 2 (0)) = pre r0.2.2 (rd tp m 2 0 r0.2.1) by rw [rsq_1, rd_sk]] at hR_1 hW_1 hWr_1 hG_1
      have hRg := (rd_ok (tp := tp) m).at 2 0 (a := r0.2.1) (by omega)
      have e1 : (pre r0.2.2 (rd tp m 2 0 r0.2.1)).1 = (rd tp m 2 0 r0.2.1).1 := rfl
      rcases Decidable.em ((rd tp m 2 0 r0.2.1).1 = -1) with he1 | hE1
      · skip
        have eB : rsq r0 (rBody tp (rd tp m)) = pre r0.2.2 (rsq (rd tp m 2 0 r0.2.1) (fun b => if pcm (lk tp b) = -1 then (-1, sk tp b, []) else rThen tp (rd tp m) 12 b)) := by rw [rsq_p he]; unfold rBody; rw [if_neg (by omega)]
        have h9 : r0.2.1 + 1 ≤ (rd tp m 2 0 r0.2.1).2.1 ∧ (rd tp m 2 0 r0.2.1).2.1 ≤ _ ∧ ((rd tp m 2 0 r0.2.1).2.2.length : Int) + 0 ≤ (rd tp m 2 0 r0.2.1).2.1 - r0.2.1 := hRg.2 he1
        obtain ⟨k1, k2, k3, k4⟩ := hG_1 he1
        have k5 : sc1 2601 = (rd tp m 2 0 r0.2.1).2.1 := k1
        have hskb := sk_r (tp := tp) (p := (rd tp m 2 0 r0.2.1).2.1) (by omega)
        have hlkb : 0 ≤ lk tp (rd tp m 2 0 r0.2.1).2.1 ∧ lk tp (rd tp m 2 0 r0.2.1).2.1 ≤ 255 := tch_r ht (sk tp (rd tp m 2 0 r0.2.1).2.1)
        have hlen : ((r0.2.2 ++ (rd tp m 2 0 r0.2.1).2.2).length : Int) = (r0.2.2.length : Int) + ((rd tp m 2 0 r0.2.1).2.2.length : Int) := by rw [List.length_append]; rfl
        refine RQ.seg 1 (pc' := 45) (L' := [some (.ref 26), some (.int (iI (lk tp r0.2.1))), some (.int (iI 1))]) (st' := [.ref 26]) (g1 := (HW sc1 ar1 tx oc rl ou tl, q)) rfl ?_
        refine RQ.call rfl rfl (CallR.up (d := 1) (x_look26 (d := 0) (sc := sc1) (ar := ar1) (a := (rd tp m 2 0 r0.2.1).2.1) ht hs_1 hl_1 k5 (by omega)) (by omega)) ?_
        refine RQ.seg 5 (pc' := 57) (L' := [some (.ref 26), some (.int (iI (lk tp (rd tp m 2 0 r0.2.1).2.1))), some (.int (iI 1))]) (st' := [.int (iI (lk tp (rd tp m 2 0 r0.2.1).2.1)), .retAddr 13]) (g1 := (HW (usc sc1 2601 (sk tp (rd tp m 2 0 r0.2.1).2.1)) ar1 tx oc rl ou tl, q)) rfl ?_
        have hpc := pcm_r (lk tp (rd tp m 2 0 r0.2.1).2.1)
        refine RQ.call rfl rfl (CallR.up (d := 1) (x_place13 (d := 0) (c := lk tp (rd tp m 2 0 r0.2.1).2.1) hK13 (by omega)) (by omega)) ?_
        refine RQ.seg 1 (pc' := 61) (L' := [some (.ref 26), some (.int (iI (lk tp (rd tp m 2 0 r0.2.1).2.1))), some (.int (iI 1))]) (st' := [.int (iI (-1)), .int (iI (pcm (lk tp (rd tp m 2 0 r0.2.1).2.1)))]) (g1 := (HW (usc sc1 2601 (sk tp (rd tp m 2 0 r0.2.1).2.1)) ar1 tx oc rl ou tl, q)) rfl ?_
        refine RQ.if2 (a := (pcm (lk tp (rd tp m 2 0 r0.2.1).2.1))) (b := (-1)) rfl rfl rfl rfl (by omega) (by omega) (fun (h3 : pcm (lk tp (rd tp m 2 0 r0.2.1).2.1) = (-1)) => ?_) (fun (h3 : ¬ pcm (lk tp (rd tp m 2 0 r0.2.1).2.1) = (-1)) => ?_)
        · skip
          refine RQ.seg 3 (pc' := 96) (L' := [some (.ref 26), some (.int (iI (lk tp (rd tp m 2 0 r0.2.1).2.1))), some (.int (iI 1))]) (st' := [.int (iI (-12)), .ref 27]) (g1 := (HW (usc sc1 2601 (sk tp (rd tp m 2 0 r0.2.1).2.1)) ar1 tx oc rl ou tl, q)) rfl ?_
          refine RQ.callQ rfl rfl (CQ.up (x_app (d := 0) (r0 := (-1, sk tp (rd tp m 2 0 r0.2.1).2.1, (pre r0.2.2 (rd tp m 2 0 r0.2.1)).2.2)) (x := (-12)) ht (RX.mv hR_1 he1 (by show (rd tp m 2 0 r0.2.1).2.1 ≤ _ ∧ _; omega)) (by omega) (fun _ => by show ((r0.2.2 ++ (rd tp m 2 0 r0.2.1).2.2).length : Int) + 1 ≤ sk tp (rd tp m 2 0 r0.2.1).2.1; omega)) (by omega)) (fun rv g1 hc9 => ?_)
          obtain ⟨rfl, sc2, ar2, rfl, hs2, ha2, hR_2⟩ := hc9
          obtain ⟨⟨hs_2, hl_2⟩, hA_2, hZ_2, hW_2, hWr_2, hG_2⟩ := id hR_2
          have hS_2 : Same ruF sc sc2 := Same.tr hS_1 (Same.tr (by repeat (first | exact Same.rf | refine Same.us rfl ?_)) hs2)
          have hT_2 : Same ruA ar ar2 := Same.tr hT_1 (Same.tr (by repeat (first | exact Same.rf | refine Same.us rfl ?_)) ha2)
          refine RQ.ret rfl rfl ?_
          rw [show rap (rsq r0 (rBody tp (rd tp m))) (-12) = rap (-1, sk tp (rd tp m 2 0 r0.2.1).2.1, (pre r0.2.2 (rd tp m 2 0 r0.2.1)).2.2) (-12) by rw [eB, rsq_p he1, if_pos (by omega)]; unfold pre; rw [List.append_nil]]
          exact ⟨rfl, _, _, rfl, hS_2, hT_2, hR_2⟩
        · skip
          rw [show rap (rsq r0 (rBody tp (rd tp m))) (-12) = rap (rTh tp (rd tp m) 12 ((-1, sk tp (rd tp m 2 0 r0.2.1).2.1, (pre r0.2.2 (rd tp m 2 0 r0.2.1)).2.2) : RS)) (-12) by rw [eB, rsq_p he1, if_neg (by omega), pre_pre, rTh_1, (show rThen tp (rd tp m) 12 (sk tp (rd tp m 2 0 r0.2.1).2.1) = rThen tp (rd tp m) 12 (rd tp m 2 0 r0.2.1).2.1 by unfold rThen; rw [rd_sk])]; rfl]
          exact RQ.im (x_then1 ht hK3 hK13 hP hD (r0 := ((-1, sk tp (rd tp m 2 0 r0.2.1).2.1, (pre r0.2.2 (rd tp m 2 0 r0.2.1)).2.2) : RS)) (sc := usc sc1 2601 (sk tp (rd tp m 2 0 r0.2.1).2.1)) (ar := ar1) (RX.mv hR_1 he1 (by show (rd tp m 2 0 r0.2.1).2.1 ≤ _ ∧ _; omega)) (fun _ => ⟨by show 16 * ((tp.length : Int) - sk tp (rd tp m 2 0 r0.2.1).2.1) + 6 ≤ (m : Int); omega, by show ((r0.2.2 ++ (rd tp m 2 0 r0.2.1).2.2).length : Int) + 1 ≤ sk tp (rd tp m 2 0 r0.2.1).2.1; omega⟩)) (fun v g h => QX.tr (Same.tr hS_1 (by repeat (first | exact Same.rf | refine Same.us rfl ?_))) hT_1 h)
      · skip
        have eB : (rap (rsq r0 (rBody tp (rd tp m))) (-12)).1 = (rd tp m 2 0 r0.2.1).1 := by rw [rsq_p he]; unfold rBody; rw [if_neg (by omega), rsq_b (r := (rd tp m 2 0 r0.2.1)) hE1]; rfl
        refine RQ.seg 1 (pc' := 45) (L' := [some (.ref 26), some (.int (iI (lk tp r0.2.1))), some (.int (iI 1))]) (st' := [.ref 26]) (g1 := (HW sc1 ar1 tx oc rl ou tl, q)) rfl ?_
        have hlr3 := tch_r ht (sk tp (sc1 2601))
        have hsr3 := sk_r (tp := tp) (p := sc1 2601) (by omega)
        have hlk3 : 0 ≤ lk tp (sc1 2601) ∧ lk tp (sc1 2601) ≤ 255 := hlr3
        refine RQ.call rfl rfl (CallR.up (d := 1) (x_look26 (d := 0) (sc := sc1) (ar := ar1) (a := sc1 2601) ht hs_1 hl_1 rfl (by omega)) (by omega)) ?_
        refine RQ.seg 5 (pc' := 57) (L' := [some (.ref 26), some (.int (iI (lk tp (sc1 2601)))), some (.int (iI 1))]) (st' := [.int (iI (lk tp (sc1 2601))), .retAddr 13]) (g1 := (HW (usc sc1 2601 (sk tp (sc1 2601))) ar1 tx oc rl ou tl, q)) rfl ?_
        have hpc := pcm_r (lk tp (sc1 2601))
        refine RQ.call rfl rfl (CallR.up (d := 1) (x_place13 (d := 0) (c := lk tp (sc1 2601)) hK13 (by omega)) (by omega)) ?_
        refine RQ.seg 1 (pc' := 61) (L' := [some (.ref 26), some (.int (iI (lk tp (sc1 2601)))), some (.int (iI 1))]) (st' := [.int (iI (-1)), .int (iI (pcm (lk tp (sc1 2601))))]) (g1 := (HW (usc sc1 2601 (sk tp (sc1 2601))) ar1 tx oc rl ou tl, q)) rfl ?_
        refine RQ.if2 (a := (pcm (lk tp (sc1 2601)))) (b := (-1)) rfl rfl rfl rfl (by omega) (by omega) (fun (h5 : pcm (lk tp (sc1 2601)) = (-1)) => ?_) (fun (h5 : ¬ pcm (lk tp (sc1 2601)) = (-1)) => ?_)
        · skip
          refine RQ.seg 3 (pc' := 96) (L' := [some (.ref 26), some (.int (iI (lk tp (sc1 2601)))), some (.int (iI 1))]) (st' := [.int (iI (-12)), .ref 27]) (g1 := (HW (usc sc1 2601 (sk tp (sc1 2601))) ar1 tx oc rl ou tl, q)) rfl ?_
          refine RQ.callQ rfl rfl (CQ.up (x_app (d := 0) (r0 := pre r0.2.2 (rd tp m 2 0 r0.2.1)) (x := (-12)) ht (RX.bad (sc' := usc sc1 2601 (sk tp (sc1 2601))) hR_1 hE1 rfl rfl (by show 0 ≤ sk tp (sc1 2601) ∧ sk tp (sc1 2601) ≤ _; omega) hZ_1 rfl) (by omega) (fun z => absurd z hE1)) (by omega)) (fun rv g1 hc9 => ?_)
          obtain ⟨rfl, sc2, ar2, rfl, hs2, ha2, hR_2⟩ := hc9
          obtain ⟨⟨hs_2, hl_2⟩, hA_2, hZ_2, hW_2, hWr_2, hG_2⟩ := id hR_2
          have hS_2 : Same ruF sc sc2 := Same.tr hS_1 (Same.tr (by repeat (first | exact Same.rf | refine Same.us rfl ?_)) hs2)
          have hT_2 : Same ruA ar ar2 := Same.tr hT_1 (Same.tr (by repeat (first | exact Same.rf | refine Same.us rfl ?_)) ha2)
          refine RQ.ret rfl rfl ?_
          exact ⟨rfl, _, _, rfl, hS_2, hT_2, RX.cg hR_2 eB hE1⟩
        · skip
          refine RQ.im (x_then1 ht hK3 hK13 hP hD (r0 := pre r0.2.2 (rd tp m 2 0 r0.2.1)) (sc := usc sc1 2601 (sk tp (sc1 2601))) (ar := ar1) (RX.bad (sc' := usc sc1 2601 (sk tp (sc1 2601))) hR_1 hE1 rfl rfl (by show 0 ≤ sk tp (sc1 2601) ∧ sk tp (sc1 2601) ≤ _; omega) hZ_1 rfl) (fun z => absurd z hE1)) (fun v g h => ?_)
          obtain ⟨e, sc9, ar9, e2, s1, s2, hR9⟩ := h
          exact ⟨e, sc9, ar9, e2, Same.tr hS_1 (Same.tr (by repeat (first | exact Same.rf | refine Same.us rfl ?_)) s1), Same.tr hT_1 s2, RX.cg hR9 (eB.trans (rTh_b (r := pre r0.2.2 (rd tp m 2 0 r0.2.1)) hE1).symm) (by rw [show (rap (rTh tp (rd tp m) 12 (pre r0.2.2 (rd tp m 2 0 r0.2.1))) (-12)).1 = (rd tp m 2 0 r0.2.1).1 from rTh_b (r := pre r0.2.2 (rd tp m 2 0 r0.2.1)) hE1]; exact hE1)⟩
