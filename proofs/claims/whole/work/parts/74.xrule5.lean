/-! the class reads a rule: the first wrong byte, by wip/tools -/
/-! the class reads a rule: the first wrong byte -/
theorem cl2 {tp : List Int} {r : RS} (h : r.1 = -1 → (0 ≤ r.2.1 ∧ r.2.1 ≤ (tp.length : Int)) ∧ (r.2.2.length : Int) ≤ r.2.1) (z : (rsq (rsq r (rex tp 121)) (rex tp 58)).1 = -1) : r.1 = -1 ∧ r.2.1 + 2 ≤ (rsq (rsq r (rex tp 121)) (rex tp 58)).2.1 ∧ ((rsq (rsq r (rex tp 121)) (rex tp 58)).2.2.length : Int) + 1 ≤ (rsq (rsq r (rex tp 121)) (rex tp 58)).2.1 := by
  rcases Decidable.em (r.1 = -1) with he | hE
  · obtain ⟨h1, h2⟩ := h he
    rw [rsq_p he, pre_sq] at z ⊢
    have hg : Rg tp r.2.1 (1 + 1) (1 + 1) (rsq (rex tp 121 r.2.1) (rex tp 58)) := Rg.sq (Rg.ex h1 (by omega)) (fun b b0 b1 => Rg.ex (by omega) (by omega))
    have h3 := hg.2 z
    refine ⟨he, ?_, ?_⟩
    · show r.2.1 + 2 ≤ (rsq (rex tp 121 r.2.1) (rex tp 58)).2.1; omega
    · show ((r.2.2 ++ (rsq (rex tp 121 r.2.1) (rex tp 58)).2.2).length : Int) + 1 ≤ (rsq (rex tp 121 r.2.1) (rex tp 58)).2.1
      rw [List.length_append]
      omega
  · rw [rsq_b (r := r) hE, rsq_b (r := r) hE] at z
    exact absurd z hE
theorem cl_g {tp : List Int} {f : RF} {r : RS} (h : r.1 = -1) : rap (rsq (rsq (rsq r (rex tp 121)) (rex tp 58)) (rBody tp f)) (-12) = pre r.2.2 (rClause tp f r.2.1) := by
  unfold rClause
  rw [rsq_p h, pre_sq, pre_sq, pre_ap]
theorem x_bodyB {K : PK} {D : Nat} {sc : Nat → Int} {ar : Nat → Int → Int} {tx oc : Nat} {rl : Nat → Option Nat} {ou : Nat → Int64} {tl : List PO} {q : Nat × Nat} {tp : List Int} {r0 : RS} (ht : TpOK tp) (hK3 : K 3 = some (6, zA kc3)) (hK13 : K 13 = some (3, zA kc13)) {m : Nat} (hP : XP K tp m) (hD : 45 ≤ D) (hR : RX tp r0 sc ar) (hE : ¬ r0.1 = -1) : RQ K D 7 false none cd84 12 [some (.ref 26), none, none] [] (HW sc ar tx oc rl ou tl, q) (QX tp (rap (rsq r0 (rBody tp (rd tp m))) (-12)) sc ar tx oc rl ou tl q) := by
  obtain ⟨p0, p1, p2, p3, p8, p4, p10, p5, p12, l6, l7, l8, l9, l11⟩ := id hP
  have ht1 := ht.1
  obtain ⟨⟨hs, hl⟩, hA, hZ, hW, hWr, hG⟩ := id hR
  rw [rsq_b (r := r0) hE]
  refine RQ.seg 1 (pc' := 13) (L' := [some (.ref 26), none, none]) (st' := [.ref 26]) (g1 := (HW sc ar tx oc rl ou tl, q)) rfl ?_
  have hlr0 := tch_r ht (sk tp (sc 2601))
  have hsr0 := sk_r (tp := tp) (p := sc 2601) (by omega)
  have hlk0 : 0 ≤ lk tp (sc 2601) ∧ lk tp (sc 2601) ≤ 255 := hlr0
  refine RQ.call rfl rfl (CallR.up (d := 1) (x_look26 (d := 0) (sc := sc) (ar := ar) (a := sc 2601) ht hs hl rfl (by omega)) (by omega)) ?_
  refine RQ.seg 3 (pc' := 20) (L' := [some (.ref 26), some (.int (iI (lk tp (sc 2601)))), none]) (st' := [.int (iI 33), .int (iI (lk tp (sc 2601)))]) (g1 := (HW (usc sc 2601 (sk tp (sc 2601))) ar tx oc rl ou tl, q)) rfl ?_
  refine RQ.if2 (a := (lk tp (sc 2601))) (b := 33) rfl rfl rfl rfl (by omega) (by omega) (fun (h2 : lk tp (sc 2601) = 33) => ?_) (fun (h2 : ¬ lk tp (sc 2601) = 33) => ?_)
  · skip
    refine RQ.seg 6 (pc' := 64) (L' := [some (.ref 26), some (.int (iI (lk tp (sc 2601)))), some (.int (iI 0))]) (st' := []) (g1 := (HW (usc sc 2601 (sk tp (sc 2601))) ar tx oc rl ou tl, q)) rfl ?_
    refine RQ.im (x_then0 ht hK3 hK13 hP hD (r0 := r0) (sc := usc sc 2601 (sk tp (sc 2601))) (ar := ar) (RX.bad (sc' := usc sc 2601 (sk tp (sc 2601))) hR hE rfl rfl (by show 0 ≤ sk tp (sc 2601) ∧ sk tp (sc 2601) ≤ _; omega) hZ rfl) (fun z => absurd z hE)) (fun v g h => ?_)
    obtain ⟨e, sc9, ar9, e2, s1, s2, hR9⟩ := h
    exact ⟨e, sc9, ar9, e2, Same.tr (by repeat (first | exact Same.rf | refine Same.us rfl ?_)) s1, s2, RX.cg hR9 (show r0.1 = (rTh tp (rd tp m) 5 r0).1 from (rTh_b hE).symm) (by show ¬ (rTh tp (rd tp m) 5 r0).1 = -1; rw [rTh_b hE]; exact hE)⟩
  · skip
    refine RQ.seg 2 (pc' := 26) (L' := [some (.ref 26), some (.int (iI (lk tp (sc 2601)))), none]) (st' := [.int (iI 40), .int (iI (lk tp (sc 2601)))]) (g1 := (HW (usc sc 2601 (sk tp (sc 2601))) ar tx oc rl ou tl, q)) rfl ?_
    refine RQ.if2 (a := (lk tp (sc 2601))) (b := 40) rfl rfl rfl rfl (by omega) (by omega) (fun (h3 : lk tp (sc 2601) = 40) => ?_) (fun (h3 : ¬ lk tp (sc 2601) = 40) => ?_)
    · skip
      refine RQ.seg 6 (pc' := 64) (L' := [some (.ref 26), some (.int (iI (lk tp (sc 2601)))), some (.int (iI 0))]) (st' := []) (g1 := (HW (usc sc 2601 (sk tp (sc 2601))) ar tx oc rl ou tl, q)) rfl ?_
      refine RQ.im (x_then0 ht hK3 hK13 hP hD (r0 := r0) (sc := usc sc 2601 (sk tp (sc 2601))) (ar := ar) (RX.bad (sc' := usc sc 2601 (sk tp (sc 2601))) hR hE rfl rfl (by show 0 ≤ sk tp (sc 2601) ∧ sk tp (sc 2601) ≤ _; omega) hZ rfl) (fun z => absurd z hE)) (fun v g h => ?_)
      obtain ⟨e, sc9, ar9, e2, s1, s2, hR9⟩ := h
      exact ⟨e, sc9, ar9, e2, Same.tr (by repeat (first | exact Same.rf | refine Same.us rfl ?_)) s1, s2, RX.cg hR9 (show r0.1 = (rTh tp (rd tp m) 5 r0).1 from (rTh_b hE).symm) (by show ¬ (rTh tp (rd tp m) 5 r0).1 = -1; rw [rTh_b hE]; exact hE)⟩
    · skip
      refine RQ.seg 7 (pc' := 41) (L' := [some (.ref 26), some (.int (iI (lk tp (sc 2601)))), some (.int (iI 1))]) (st' := [.int (iI 0), .ref 26]) (g1 := (HW (usc sc 2601 (sk tp (sc 2601))) ar tx oc rl ou tl, q)) rfl ?_
      refine RQ.callQ rfl rfl (CQ.up (p2 (D - 1) (6) (0) (r0) _ _ _ _ _ _ _ _ (by omega) (by omega) (by omega) (RX.bad (sc' := usc sc 2601 (sk tp (sc 2601))) hR hE rfl rfl (by show 0 ≤ sk tp (sc 2601) ∧ sk tp (sc 2601) ≤ _; omega) hZ rfl) (fun z => absurd z hE)) (by omega)) (fun rv g1 hc9 => ?_)
      obtain ⟨rfl, sc1, ar1, rfl, hs1, ha1, hR_1⟩ := hc9
      obtain ⟨⟨hs_1, hl_1⟩, hA_1, hZ_1, hW_1, hWr_1, hG_1⟩ := id hR_1
      have hS_1 : Same ruF sc sc1 := Same.tr Same.rf (Same.tr (by repeat (first | exact Same.rf | refine Same.us rfl ?_)) hs1)
      have hT_1 : Same ruA ar ar1 := Same.tr Same.rf (Same.tr (by repeat (first | exact Same.rf | refine Same.us rfl ?_)) ha1)
      rw [rsq_b (r := r0) hE] at hR_1 hW_1 hWr_1 hG_1
      refine RQ.seg 1 (pc' := 45) (L' := [some (.ref 26), some (.int (iI (lk tp (sc 2601)))), some (.int (iI 1))]) (st' := [.ref 26]) (g1 := (HW sc1 ar1 tx oc rl ou tl, q)) rfl ?_
      have hlr3 := tch_r ht (sk tp (sc1 2601))
      have hsr3 := sk_r (tp := tp) (p := sc1 2601) (by omega)
      have hlk3 : 0 ≤ lk tp (sc1 2601) ∧ lk tp (sc1 2601) ≤ 255 := hlr3
      refine RQ.call rfl rfl (CallR.up (d := 1) (x_look26 (d := 0) (sc := sc1) (ar := ar1) (a := sc1 2601) ht hs_1 hl_1 rfl (by omega)) (by omega)) ?_
      refine RQ.seg 5 (pc' := 57) (L' := [some (.ref 26), some (.int (iI (lk tp (sc1 2601)))), some (.int (iI 1))]) (st' := [.int (iI (lk tp (sc1 2601))), .retAddr 13]) (g1 := (HW (usc sc1 2601 (sk tp (sc1 2601))) ar1 tx oc rl ou tl, q)) rfl ?_
      have hpc := pcm_r (lk tp (sc1 2601))
      refine RQ.call rfl rfl (CallR.up (d := 1) (x_place13 (d := 0) (c := lk tp (sc1 2601)) hK13 (by omega)) (by omega)) ?_
      refine RQ.seg 1 (pc' := 61) (L' := [some (.ref 26), some (.int (iI (lk tp (sc1 2601)))), some (.int (iI 1))]) (st' := [.int (iI (-1)), .int (iI (pcm (lk tp (sc1 2601))))]) (g1 := (HW (usc sc1 2601 (sk tp (sc1 2601))) ar1 tx oc rl ou tl, q)) rfl ?_
      refine RQ.if2 (a := (pcm (lk tp (sc1 2601)))) (b := (-1)) rfl rfl rfl rfl (by omega) (by omega) (fun (h5 : pcm (lk tp (sc1 2601)) = (-1)) => ?_) (fun (h5 : ¬ pcm (lk tp (sc1 2601)) = (-1)) => ?_)
      · skip
        refine RQ.seg 3 (pc' := 96) (L' := [some (.ref 26), some (.int (iI (lk tp (sc1 2601)))), some (.int (iI 1))]) (st' := [.int (iI (-12)), .ref 27]) (g1 := (HW (usc sc1 2601 (sk tp (sc1 2601))) ar1 tx oc rl ou tl, q)) rfl ?_
        refine RQ.callQ rfl rfl (CQ.up (x_app (d := 0) (r0 := r0) (x := (-12)) ht (RX.bad (sc' := usc sc1 2601 (sk tp (sc1 2601))) hR_1 hE rfl rfl (by show 0 ≤ sk tp (sc1 2601) ∧ sk tp (sc1 2601) ≤ _; omega) hZ_1 rfl) (by omega) (fun z => absurd z hE)) (by omega)) (fun rv g1 hc9 => ?_)
        obtain ⟨rfl, sc2, ar2, rfl, hs2, ha2, hR_2⟩ := hc9
        obtain ⟨⟨hs_2, hl_2⟩, hA_2, hZ_2, hW_2, hWr_2, hG_2⟩ := id hR_2
        have hS_2 : Same ruF sc sc2 := Same.tr hS_1 (Same.tr (by repeat (first | exact Same.rf | refine Same.us rfl ?_)) hs2)
        have hT_2 : Same ruA ar ar2 := Same.tr hT_1 (Same.tr (by repeat (first | exact Same.rf | refine Same.us rfl ?_)) ha2)
        refine RQ.ret rfl rfl ?_
        exact ⟨rfl, _, _, rfl, hS_2, hT_2, hR_2⟩
      · skip
        refine RQ.im (x_then1 ht hK3 hK13 hP hD (r0 := r0) (sc := usc sc1 2601 (sk tp (sc1 2601))) (ar := ar1) (RX.bad (sc' := usc sc1 2601 (sk tp (sc1 2601))) hR_1 hE rfl rfl (by show 0 ≤ sk tp (sc1 2601) ∧ sk tp (sc1 2601) ≤ _; omega) hZ_1 rfl) (fun z => absurd z hE)) (fun v g h => ?_)
        obtain ⟨e, sc9, ar9, e2, s1, s2, hR9⟩ := h
        exact ⟨e, sc9, ar9, e2, Same.tr hS_1 (Same.tr (by repeat (first | exact Same.rf | refine Same.us rfl ?_)) s1), Same.tr hT_1 s2, RX.cg hR9 (show r0.1 = (rTh tp (rd tp m) 12 r0).1 from (rTh_b hE).symm) (by show ¬ (rTh tp (rd tp m) 12 r0).1 = -1; rw [rTh_b hE]; exact hE)⟩
theorem x_rclause {K : PK} {D : Nat} {sc : Nat → Int} {ar : Nat → Int → Int} {tx oc : Nat} {rl : Nat → Option Nat} {ou : Nat → Int64} {tl : List PO} {q : Nat × Nat} {tp : List Int} {r0 : RS} (ht : TpOK tp) (hK3 : K 3 = some (6, zA kc3)) (hK13 : K 13 = some (3, zA kc13)) {m : Nat} (hP : XP K tp m) (hD : 45 ≤ D) (hR : RX tp r0 sc ar) (hF : r0.1 = -1 → 16 * ((tp.length : Int) - r0.2.1) ≤ (m : Int)) : CQ K (D + 1) 84 [.ref 26] (HW sc ar tx oc rl ou tl, q) (QX tp (rap (rsq (rsq (rsq r0 (rex tp 121)) (rex tp 58)) (rBody tp (rd tp m))) (-12)) sc ar tx oc rl ou tl q) := by
  have ht1 := ht.1
  obtain ⟨⟨hs, hl⟩, hA, hZ, hW, hWr, hG⟩ := id hR
  refine CQ.of (own := 7) (n := 3) (ini := false) (rt := none) (cd := cd84) (by decide +kernel) rfl (by decide +kernel) rfl (Nat.le_of_ble_eq_true rfl) ?_
  refine RQ.seg 2 (pc' := 3) (L' := [some (.ref 26), none, none]) (st' := [.int (iI 121), .ref 26]) (g1 := (HW sc ar tx oc rl ou tl, q)) rfl ?_
  refine RQ.callQ rfl rfl (CQ.up (x_exp (d := 0) (r0 := r0) (c := 121) ht hR (by omega)) (by omega)) (fun rv g1 hc9 => ?_)
  obtain ⟨rfl, sc1, ar1, rfl, hs1, ha1, hR_1⟩ := hc9
  obtain ⟨⟨hs_1, hl_1⟩, hA_1, hZ_1, hW_1, hWr_1, hG_1⟩ := id hR_1
  have hS_1 : Same ruF sc sc1 := hs1
  have hT_1 : Same ruA ar ar1 := ha1
  refine RQ.seg 2 (pc' := 9) (L' := [some (.ref 26), none, none]) (st' := [.int (iI 58), .ref 26]) (g1 := (HW sc1 ar1 tx oc rl ou tl, q)) rfl ?_
  refine RQ.callQ rfl rfl (CQ.up (x_exp (d := 0) (r0 := rsq r0 (rex tp 121)) (c := 58) ht hR_1 (by omega)) (by omega)) (fun rv g1 hc9 => ?_)
  obtain ⟨rfl, sc2, ar2, rfl, hs2, ha2, hR_2⟩ := hc9
  obtain ⟨⟨hs_2, hl_2⟩, hA_2, hZ_2, hW_2, hWr_2, hG_2⟩ := id hR_2
  have hS_2 : Same ruF sc sc2 := Same.tr hS_1 (Same.tr (by repeat (first | exact Same.rf | refine Same.us rfl ?_)) hs2)
  have hT_2 : Same ruA ar ar2 := Same.tr hT_1 (Same.tr (by repeat (first | exact Same.rf | refine Same.us rfl ?_)) ha2)
  rcases Decidable.em ((rsq (rsq r0 (rex tp 121)) (rex tp 58)).1 = -1) with he2 | hE2
  · refine RQ.im (x_body ht hK3 hK13 hP hD hR_2 (fun _ => ?_) he2) (fun v g h => QX.tr hS_2 hT_2 h)
    have hc9 := cl2 (tp := tp) (r := r0) (fun z => by have := hG z; omega) he2
    have := hF hc9.1
    omega
  · exact RQ.im (x_bodyB ht hK3 hK13 hP hD hR_2 hE2) (fun v g h => QX.tr hS_2 hT_2 h)
theorem x_rw_b {K : PK} {D : Nat} {tx oc : Nat} {rl : Nat → Option Nat} {ou : Nat → Int64} {tl : List PO} {q : Nat × Nat} {tp : List Int} (ht : TpOK tp) (hK3 : K 3 = some (6, zA kc3)) (hK13 : K 13 = some (3, zA kc13)) (hD : 46 ≤ D) {n : Int} {r0 : RS} {sc : Nat → Int} {ar : Nat → Int → Int} {Q : Option Value → PG → Prop} (hn : 0 ≤ n ∧ n ≤ 161) (hR : RX tp r0 sc ar) (hE : ¬ r0.1 = -1) (hk : Q (some (.int (iI r0.1))) (HW sc ar tx oc rl ou tl, q)) : RQ K D 7 false (some .int) cd83 14 [some (.ref 26), some (.int (iI n))] [] (HW sc ar tx oc rl ou tl, q) Q := by
  have ht1 := ht.1
  obtain ⟨⟨hs, hl⟩, hA, hZ, hW, hWr, hG⟩ := id hR
  rw [← hW] at hk
  refine RQ.seg 2 (pc' := 18) (L' := [some (.ref 26), some (.int (iI n))]) (st' := [.int (iI 160), .int (iI n)]) (g1 := (HW sc ar tx oc rl ou tl, q)) rfl ?_
  refine RQ.if2 (a := n) (b := 160) rfl rfl rfl rfl (by omega) (by omega) (fun (h1 : 160 < n) => ?_) (fun (h1 : ¬ 160 < n) => ?_)
  · skip
    refine RQ.seg 2 (pc' := 58) (L' := [some (.ref 26), some (.int (iI n))]) (st' := [.int (iI (sc 2602))]) (g1 := (HW sc ar tx oc rl ou tl, q)) rfl ?_
    refine RQ.ret rfl rfl ?_
    exact hk
  · skip
    refine RQ.seg 1 (pc' := 22) (L' := [some (.ref 26), some (.int (iI n))]) (st' := [.ref 26]) (g1 := (HW sc ar tx oc rl ou tl, q)) rfl ?_
    refine RQ.call rfl rfl (CallR.up (d := 1) (x_fine26f (d := 0) (sc := sc) (ar := ar) (by show -1 ≤ sc 2602 ∧ sc 2602 ≤ 200; omega) (by show ¬ sc 2602 = -1; omega)) (by omega)) ?_
    refine RQ.seg 3 (pc' := 58) (L' := [some (.ref 26), some (.int (iI n))]) (st' := [.int (iI (sc 2602))]) (g1 := (HW sc ar tx oc rl ou tl, q)) rfl ?_
    refine RQ.ret rfl rfl ?_
    exact hk
theorem x_rw_l {K : PK} {D : Nat} {tx oc : Nat} {rl : Nat → Option Nat} {ou : Nat → Int64} {tl : List PO} {q : Nat × Nat} {tp : List Int} (ht : TpOK tp) (hK3 : K 3 = some (6, zA kc3)) (hK13 : K 13 = some (3, zA kc13)) (hD : 46 ≤ D) {Q : Option Value → PG → Prop} : ∀ (m : Nat) (n : Int) (r0 : RS) (sc : Nat → Int) (ar : Nat → Int → Int) (hn : 0 ≤ n ∧ n ≤ 160) (hR : RX tp r0 sc ar) (hF : r0.1 = -1 → 16 * ((tp.length : Int) - r0.2.1) + 2 ≤ (m : Int) ∧ n ≤ r0.2.1) (hk : ∀ sc' ar', Same ruF sc sc' → Same ruA ar ar' → RX tp (rsq r0 (rd tp m 14 0)) sc' ar' → Q (some (.int (iI (rsq r0 (rd tp m 14 0)).1))) (HW sc' ar' tx oc rl ou tl, q)), RQ K D 7 false (some .int) cd83 14 [some (.ref 26), some (.int (iI n))] [] (HW sc ar tx oc rl ou tl, q) Q
  | 0, n, r0, sc, ar, hn, hR, hF, hk => by
    rcases Decidable.em (r0.1 = -1) with he | hE
    · exfalso
      have z1 := hF he
      have z2 := hR.2.1
      have z3 := (hR.2.2.2.2.2 he).1
      omega
    · rw [rsq_b (r := r0) hE] at hk
      exact x_rw_b ht hK3 hK13 hD (by omega) hR hE (hk _ _ Same.rf Same.rf hR)
  | 1, n, r0, sc, ar, hn, hR, hF, hk => by
    rcases Decidable.em (r0.1 = -1) with he | hE
    · exfalso
      have z1 := hF he
      have z2 := hR.2.1
      have z3 := (hR.2.2.2.2.2 he).1
      omega
    · rw [rsq_b (r := r0) hE] at hk
      exact x_rw_b ht hK3 hK13 hD (by omega) hR hE (hk _ _ Same.rf Same.rf hR)
  | m + 2, n, r0, sc, ar, hn, hR, hF, hk => by
    rcases Decidable.em (r0.1 = -1) with he | hE
    · skip
      have ht1 := ht.1
      obtain ⟨⟨hs, hl⟩, hA, hZ, hW, hWr, hG⟩ := id hR
      obtain ⟨g1, g2, g3, g4⟩ := hG he
      have hw1 : sc 2602 = -1 := hW.trans he
      have hF9 := hF he
      have hP := xp_all (K := K) ht hK3 hK13 m
      refine RQ.seg 2 (pc' := 18) (L' := [some (.ref 26), some (.int (iI n))]) (st' := [.int (iI 160), .int (iI n)]) (g1 := (HW sc ar tx oc rl ou tl, q)) rfl ?_
      refine RQ.if2 (a := n) (b := 160) rfl rfl rfl rfl (by omega) (by omega) (fun (q : 160 < n) => absurd q (show ¬ 160 < n from by omega)) (fun _ => ?_)
      refine RQ.seg 1 (pc' := 22) (L' := [some (.ref 26), some (.int (iI n))]) (st' := [.ref 26]) (g1 := (HW sc ar tx oc rl ou tl, q)) rfl ?_
      refine RQ.call rfl rfl (CallR.up (d := 1) (x_fine26t (d := 0) (sc := sc) (ar := ar) (by show -1 ≤ sc 2602 ∧ sc 2602 ≤ 200; omega) (by show sc 2602 = -1; omega)) (by omega)) ?_
      refine RQ.seg 2 (pc' := 29) (L' := [some (.ref 26), some (.int (iI n))]) (st' := [.ref 26]) (g1 := (HW sc ar tx oc rl ou tl, q)) rfl ?_
      refine RQ.callQ rfl rfl (CQ.up (x_rclause (D := 45) ht hK3 hK13 hP (Nat.le_refl _) hR (fun _ => by omega)) (by omega)) (fun rv g1 hc9 => ?_)
      obtain ⟨rfl, sc1, ar1, rfl, hs1, ha1, hR_1⟩ := hc9
      obtain ⟨⟨hs_1, hl_1⟩, hA_1, hZ_1, hW_1, hWr_1, hG_1⟩ := id hR_1
      have hS_1 : Same ruF sc sc1 := hs1
      have hT_1 : Same ruA ar ar1 := ha1
      rw [show rap (rsq (rsq (rsq r0 (rex tp 121)) (rex tp 58)) (rBody tp (rd tp m))) (-12) = pre r0.2.2 (rd tp (m + 1) 13 0 r0.2.1) from cl_g he] at hR_1 hW_1 hWr_1 hG_1
      have hRg := (rd_ok (tp := tp) (m + 1)).at 13 0 (a := r0.2.1) (by omega)
      rcases Decidable.em ((rd tp (m + 1) 13 0 r0.2.1).1 = -1) with he1 | hE1
      · skip
        have h9 : r0.2.1 + 1 ≤ (rd tp (m + 1) 13 0 r0.2.1).2.1 ∧ (rd tp (m + 1) 13 0 r0.2.1).2.1 ≤ _ ∧ ((rd tp (m + 1) 13 0 r0.2.1).2.2.length : Int) + 0 ≤ (rd tp (m + 1) 13 0 r0.2.1).2.1 - r0.2.1 := hRg.2 he1
        obtain ⟨k1, k2, k3, k4⟩ := hG_1 he1
        have k5 : sc1 2601 = (rd tp (m + 1) 13 0 r0.2.1).2.1 := k1
        have hskb := sk_r (tp := tp) (p := (rd tp (m + 1) 13 0 r0.2.1).2.1) (by omega)
        have hlkb : 0 ≤ lk tp (rd tp (m + 1) 13 0 r0.2.1).2.1 ∧ lk tp (rd tp (m + 1) 13 0 r0.2.1).2.1 ≤ 255 := tch_r ht (sk tp (rd tp (m + 1) 13 0 r0.2.1).2.1)
        have eT : rsq r0 (rd tp (m + 2) 14 0) = pre (r0.2.2 ++ (rd tp (m + 1) 13 0 r0.2.1).2.2) (if lk tp (rd tp (m + 1) 13 0 r0.2.1).2.1 = 0 then (-1, sk tp (rd tp (m + 1) 13 0 r0.2.1).2.1, []) else rsq (rex tp 59 (rd tp (m + 1) 13 0 r0.2.1).2.1) (rd tp (m + 1) 14 0)) := by rw [rsq_p he, show rd tp (m + 2) 14 0 r0.2.1 = rsq (rd tp (m + 1) 13 0 r0.2.1) (fun b => if lk tp b = 0 then (-1, sk tp b, []) else rsq (rex tp 59 b) (rd tp (m + 1) 14 0)) from rfl, rsq_p he1, pre_pre]
        refine RQ.seg 1 (pc' := 33) (L' := [some (.ref 26), some (.int (iI n))]) (st' := [.ref 26]) (g1 := (HW sc1 ar1 tx oc rl ou tl, q)) rfl ?_
        refine RQ.call rfl rfl (CallR.up (d := 1) (x_look26 (d := 0) (sc := sc1) (ar := ar1) (a := (rd tp (m + 1) 13 0 r0.2.1).2.1) ht hs_1 hl_1 k5 (by omega)) (by omega)) ?_
        refine RQ.if1 (a := (lk tp (rd tp (m + 1) 13 0 r0.2.1).2.1)) rfl rfl rfl (by omega) (fun (h2 : lk tp (rd tp (m + 1) 13 0 r0.2.1).2.1 ≠ 0) => ?_) (fun (h2 : ¬ lk tp (rd tp (m + 1) 13 0 r0.2.1).2.1 ≠ 0) => ?_)
        · skip
          refine RQ.seg 2 (pc' := 45) (L' := [some (.ref 26), some (.int (iI n))]) (st' := [.int (iI 59), .ref 26]) (g1 := (HW (usc sc1 2601 (sk tp (rd tp (m + 1) 13 0 r0.2.1).2.1)) ar1 tx oc rl ou tl, q)) rfl ?_
          refine RQ.callQ rfl rfl (CQ.up (x_exp (d := 0) (r0 := (-1, sk tp (rd tp (m + 1) 13 0 r0.2.1).2.1, (pre r0.2.2 (rd tp (m + 1) 13 0 r0.2.1)).2.2)) (c := 59) ht (RX.mv hR_1 he1 (by show (rd tp (m + 1) 13 0 r0.2.1).2.1 ≤ _ ∧ _; omega)) (by omega)) (by omega)) (fun rv g1 hc9 => ?_)
          obtain ⟨rfl, sc2, ar2, rfl, hs2, ha2, hR_2⟩ := hc9
          obtain ⟨⟨hs_2, hl_2⟩, hA_2, hZ_2, hW_2, hWr_2, hG_2⟩ := id hR_2
          have hS_2 : Same ruF sc sc2 := Same.tr hS_1 (Same.tr (by repeat (first | exact Same.rf | refine Same.us rfl ?_)) hs2)
          have hT_2 : Same ruA ar ar2 := Same.tr hT_1 (Same.tr (by repeat (first | exact Same.rf | refine Same.us rfl ?_)) ha2)
          rw [show rsq (-1, sk tp (rd tp (m + 1) 13 0 r0.2.1).2.1, (pre r0.2.2 (rd tp (m + 1) 13 0 r0.2.1)).2.2) (rex tp 59) = pre (r0.2.2 ++ (rd tp (m + 1) 13 0 r0.2.1).2.2) (rex tp 59 (rd tp (m + 1) 13 0 r0.2.1).2.1) by rw [rsq_1, rex_sk]; rfl] at hR_2 hW_2 hWr_2 hG_2
          refine RQ.seg 2 (pc' := 14) (L' := [some (.ref 26), some (.int ((iI n) + (iI 1)))]) (st' := []) (g1 := (HW sc2 ar2 tx oc rl ou tl, q)) rfl ?_
          refine RQ.to (L' := [some (.ref 26), some (.int (iI (n + 1)))]) (st' := []) (by simp only [iI_add, iI_sub, iI_mul, iI_neg]) rfl ?_
          rw [eT, if_neg (by omega), ← pre_sq] at hk
          have hRx := Rg.ex (tp := tp) (a := (rd tp (m + 1) 13 0 r0.2.1).2.1) (c := 59) (by omega) (by omega)
          refine x_rw_l ht hK3 hK13 hD (m + 1) (n + 1) (pre (r0.2.2 ++ (rd tp (m + 1) 13 0 r0.2.1).2.2) (rex tp 59 (rd tp (m + 1) 13 0 r0.2.1).2.1)) sc2 ar2 (by omega) hR_2 (fun z => ?_) (fun sc' ar' z1 z2 z3 => hk sc' ar' (hS_2.tr z1) (hT_2.tr z2) z3)
          have z1 := hRx.2 z
          show 16 * ((tp.length : Int) - (rex tp 59 (rd tp (m + 1) 13 0 r0.2.1).2.1).2.1) + 2 ≤ ((m + 1 : Nat) : Int) ∧ n + 1 ≤ (rex tp 59 (rd tp (m + 1) 13 0 r0.2.1).2.1).2.1
          omega
        · skip
          refine RQ.seg 3 (pc' := 58) (L' := [some (.ref 26), some (.int (iI n))]) (st' := [.int (iI (sc1 2602))]) (g1 := (HW (usc sc1 2601 (sk tp (rd tp (m + 1) 13 0 r0.2.1).2.1)) ar1 tx oc rl ou tl, q)) rfl ?_
          refine RQ.ret rfl rfl ?_
          rw [eT, if_pos (by omega)] at hk
          have hk1 := hk _ _ (Same.tr hS_1 (show Same ruF sc1 (usc sc1 2601 (sk tp (rd tp (m + 1) 13 0 r0.2.1).2.1)) from (by repeat (first | exact Same.rf | refine Same.us rfl ?_)))) hT_1 (by rw [show pre (r0.2.2 ++ (rd tp (m + 1) 13 0 r0.2.1).2.2) (-1, sk tp (rd tp (m + 1) 13 0 r0.2.1).2.1, []) = (-1, sk tp (rd tp (m + 1) 13 0 r0.2.1).2.1, (pre r0.2.2 (rd tp (m + 1) 13 0 r0.2.1)).2.2) by unfold pre; rw [List.append_nil]]; exact RX.mv hR_1 he1 (by show (rd tp (m + 1) 13 0 r0.2.1).2.1 ≤ _ ∧ _; omega))
          rw [show sc1 2602 = -1 from hW_1.trans he1]
          exact hk1
      · skip
        have eT : rsq r0 (rd tp (m + 2) 14 0) = pre r0.2.2 (rd tp (m + 1) 13 0 r0.2.1) := by rw [rsq_p he, show rd tp (m + 2) 14 0 r0.2.1 = rsq (rd tp (m + 1) 13 0 r0.2.1) (fun b => if lk tp b = 0 then (-1, sk tp b, []) else rsq (rex tp 59 b) (rd tp (m + 1) 14 0)) from rfl, rsq_b hE1]
        rw [eT] at hk
        have hE2 : ¬ (pre r0.2.2 (rd tp (m + 1) 13 0 r0.2.1)).1 = -1 := hE1
        refine RQ.seg 1 (pc' := 33) (L' := [some (.ref 26), some (.int (iI n))]) (st' := [.ref 26]) (g1 := (HW sc1 ar1 tx oc rl ou tl, q)) rfl ?_
        have hlr2 := tch_r ht (sk tp (sc1 2601))
        have hsr2 := sk_r (tp := tp) (p := sc1 2601) (by omega)
        have hlk2 : 0 ≤ lk tp (sc1 2601) ∧ lk tp (sc1 2601) ≤ 255 := hlr2
        refine RQ.call rfl rfl (CallR.up (d := 1) (x_look26 (d := 0) (sc := sc1) (ar := ar1) (a := sc1 2601) ht hs_1 hl_1 rfl (by omega)) (by omega)) ?_
        refine RQ.if1 (a := (lk tp (sc1 2601))) rfl rfl rfl (by omega) (fun (h4 : lk tp (sc1 2601) ≠ 0) => ?_) (fun (h4 : ¬ lk tp (sc1 2601) ≠ 0) => ?_)
        · skip
          refine RQ.seg 2 (pc' := 45) (L' := [some (.ref 26), some (.int (iI n))]) (st' := [.int (iI 59), .ref 26]) (g1 := (HW (usc sc1 2601 (sk tp (sc1 2601))) ar1 tx oc rl ou tl, q)) rfl ?_
          refine RQ.callQ rfl rfl (CQ.up (x_exp (d := 0) (r0 := pre r0.2.2 (rd tp (m + 1) 13 0 r0.2.1)) (c := 59) ht (RX.bad (sc' := usc sc1 2601 (sk tp (sc1 2601))) hR_1 hE2 rfl rfl (by show 0 ≤ sk tp (sc1 2601) ∧ sk tp (sc1 2601) ≤ _; omega) hZ_1 rfl) (by omega)) (by omega)) (fun rv g1 hc9 => ?_)
          obtain ⟨rfl, sc2, ar2, rfl, hs2, ha2, hR_2⟩ := hc9
          obtain ⟨⟨hs_2, hl_2⟩, hA_2, hZ_2, hW_2, hWr_2, hG_2⟩ := id hR_2
          have hS_2 : Same ruF sc sc2 := Same.tr hS_1 (Same.tr (by repeat (first | exact Same.rf | refine Same.us rfl ?_)) hs2)
          have hT_2 : Same ruA ar ar2 := Same.tr hT_1 (Same.tr (by repeat (first | exact Same.rf | refine Same.us rfl ?_)) ha2)
          rw [rsq_b hE2] at hR_2 hW_2 hWr_2 hG_2
          refine RQ.seg 2 (pc' := 14) (L' := [some (.ref 26), some (.int ((iI n) + (iI 1)))]) (st' := []) (g1 := (HW sc2 ar2 tx oc rl ou tl, q)) rfl ?_
          refine RQ.to (L' := [some (.ref 26), some (.int (iI (n + 1)))]) (st' := []) (by simp only [iI_add, iI_sub, iI_mul, iI_neg]) rfl ?_
          exact x_rw_b ht hK3 hK13 hD (by omega) hR_2 hE2 (hk _ _ hS_2 hT_2 hR_2)
        · skip
          refine RQ.seg 3 (pc' := 58) (L' := [some (.ref 26), some (.int (iI n))]) (st' := [.int (iI (sc1 2602))]) (g1 := (HW (usc sc1 2601 (sk tp (sc1 2601))) ar1 tx oc rl ou tl, q)) rfl ?_
          refine RQ.ret rfl rfl ?_
          have hRb : RX tp (pre r0.2.2 (rd tp (m + 1) 13 0 r0.2.1)) (usc sc1 2601 (sk tp (sc1 2601))) ar1 := RX.bad hR_1 hE2 rfl rfl (by show 0 ≤ sk tp (sc1 2601) ∧ sk tp (sc1 2601) ≤ _; omega) hZ_1 rfl
          rw [← hW_1] at hk
          exact hk _ _ (Same.tr hS_1 (by repeat (first | exact Same.rf | refine Same.us rfl ?_))) hT_1 hRb
    · rw [rsq_b (r := r0) hE] at hk
      exact x_rw_b ht hK3 hK13 hD (by omega) hR hE (hk _ _ Same.rf Same.rf hR)
theorem x_rwrong {K : PK} {d : Nat} {sc : Nat → Int} {ar : Nat → Int → Int} {tx oc : Nat} {rl : Nat → Option Nat} {ou : Nat → Int64} {tl : List PO} {q : Nat × Nat} {tp : List Int} (ht : TpOK tp) (hs : sc 101 = (tp.length : Int)) (hl : LAt (fun v => v) (ar 2) tp) (hK3 : K 3 = some (6, zA kc3)) (hK13 : K 13 = some (3, zA kc13)) : CQ K (d + 47) 83 [.ref 26] (HW sc ar tx oc rl ou tl, q) (fun r g' => r = some (.int (iI (rlF tp))) ∧ ∃ sc' ar', g' = (HW sc' ar' tx oc rl ou tl, q) ∧ Same ruF sc sc' ∧ Same ruA ar ar' ∧ RX tp (rl9 tp) sc' ar') := by
  have ht1 := ht.1
  refine CQ.of (own := 7) (n := 2) (ini := false) (rt := (some .int)) (cd := cd83) (by decide +kernel) rfl (by decide +kernel) rfl (Nat.le_of_ble_eq_true rfl) ?_
  refine RQ.seg 1 (pc' := 1) (L' := [some (.ref 26), none]) (st' := [.ref 26]) (g1 := (HW sc ar tx oc rl ou tl, q)) rfl ?_
  refine RQ.call rfl rfl (CallR.up (d := 1) (x_begin26 (d := 0)) (by omega)) ?_
  refine RQ.seg 6 (pc' := 14) (L' := [some (.ref 26), some (.int (iI 0))]) (st' := []) (g1 := (HW (usc (usc (usc sc 2601 0) 2602 (-1)) 2701 0) ar tx oc rl ou tl, q)) rfl ?_
  refine x_rw_l ht hK3 hK13 (by omega) 3000 0 ((-1, 0, []) : RS) (usc (usc (usc sc 2601 0) 2602 (-1)) 2701 0) ar (by omega) ⟨⟨hs, hl⟩, by show (0 : Int) ≤ 0 ∧ (0 : Int) ≤ _; omega, by show (0 : Int) ≤ 0 ∧ (0 : Int) ≤ 161; omega, rfl, by show (-1 : Int) ≤ -1 ∧ (-1 : Int) ≤ 160; omega, fun _ => ⟨rfl, rfl, fun k k0 k1 => absurd (show k < 0 from k1) (by omega), Int.le_refl _⟩⟩ (fun _ => ⟨by show 16 * ((tp.length : Int) - 0) + 2 ≤ 3000; omega, Int.le_refl _⟩) (fun sc' ar' z1 z2 z3 => ?_)
  rw [show rsq ((-1, 0, []) : RS) (rd tp 3000 14 0) = rl9 tp from rsq_1] at z3 ⊢
  exact ⟨rfl, sc', ar', rfl, Same.tr (by repeat (first | exact Same.rf | refine Same.us rfl ?_)) z1, z2, z3⟩
