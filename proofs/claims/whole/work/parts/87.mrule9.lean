/-! the reference goes through a rule, by wip/tools -/
/-! the reference goes through a rule -/
def gtF : List Nat := [8008, 8009, 8010, 8011, 8012, 8013, 8014, 8017]
theorem FF.nil {L : Int → Int} {hf fo : Int} : FF L [] hf fo hf fo := ⟨fun z => ⟨z, rfl⟩, fun z => Or.inr ⟨z, rfl, fun _ => rfl⟩⟩
theorem FF.tr {L : Int → Int} {C R : List Int} {hf fo h1 f1 h2 f2 : Int} (a : FF L C hf fo h1 f1) (b : FF L R h1 f1 h2 f2) : FF L (C ++ R) hf fo h2 f2 := by
  refine ⟨fun z => ?_, fun z => ?_⟩
  · obtain ⟨e1, e2⟩ := a.1 z
    obtain ⟨e3, e4⟩ := b.1 e1
    exact ⟨e3, e4.trans e2⟩
  · rcases a.2 z with ⟨e1, e2⟩ | ⟨e1, e2, e3⟩
    · obtain ⟨e4, e5⟩ := b.1 e1
      exact Or.inl ⟨e4, fun c => by rw [List.append_assoc, e2, e5]⟩
    · rcases b.2 e1 with ⟨e4, e5⟩ | ⟨e4, e5, e6⟩
      · exact Or.inl ⟨e4, fun c => by rw [List.append_assoc, e3, e5]⟩
      · exact Or.inr ⟨e4, e5.trans e2, fun c => by rw [List.append_assoc, e3, e6]⟩
theorem FF.fin {L : Int → Int} {C : List Int} {h f : Int} (a : FF L C 0 0 h f) : f = wo L C false [] := by
  rcases a.2 rfl with ⟨-, e2⟩ | ⟨-, e2, e3⟩
  · rw [← e2 [], List.append_nil]
  · have := e3 []
    rw [List.append_nil] at this
    rw [this, e2]
    rfl
def tk (tp : List Int) (m : Nat) (a : Int) : RS := if lk tp a = 0 then (-1, sk tp a, []) else rsq (rex tp 59 a) (rd tp m 14 0)
theorem tk_0 {tp : List Int} {m : Nat} {a : Int} (h : lk tp a = 0) : tk tp m a = (-1, sk tp a, []) := if_pos h
theorem tk_n {tp : List Int} {m : Nat} {a : Int} (h : ¬ lk tp a = 0) (h1 : ¬ lk tp a = 59) (h2 : ¬ sk tp a = -1) : (tk tp m a).1 = sk tp a := by
  unfold tk
  rw [if_neg h, show rex tp 59 a = rno tp a from if_neg h1, rsq_b (r := rno tp a) h2]
  rfl
theorem tk_s {tp : List Int} {m : Nat} {a : Int} (h1 : lk tp a = 59) : tk tp (m + 2) a = pre [] (rsq (rClause tp (rd tp m) (sk tp a + 1)) (tk tp (m + 1))) := by
  unfold tk
  rw [if_neg (by omega), show rex tp 59 a = (-1, sk tp a + 1, []) from if_pos h1, rsq_1]
  rfl
theorem rl9_c {tp : List Int} : rl9 tp = rsq (rClause tp (rd tp 2998) 0) (tk tp 2999) := rfl
theorem m_gt81_b {K : PK} {d : Nat} {ar : Nat → Int → Int} {oc : Nat} {rl : Nat → Option Nat} {ou : Nat → Int64} {tl : List PO} {q : Nat × Nat} {b0 n0 : Int} {Q : Option Value → PG → Prop} {sc : Nat → Int} (hr : -1 ≤ sc 8011 ∧ sc 8011 ≤ 160) (hw : ¬ sc 8011 = -1) (hk : Q none (HW sc ar 81 oc rl ou tl, q)) : RQ K (d + 49) 11 false none cd173 32 [some (.ref 80), some (.ref 81), some (.int (iI b0)), some (.int (iI n0))] [] (HW sc ar 81 oc rl ou tl, q) Q := by
  refine RQ.seg 3 (pc' := 37) (L' := [some (.ref 80), some (.ref 81), some (.int (iI b0)), some (.int (iI n0))]) (st' := [.int (iI (-1)), .int (iI (sc 8011))]) (g1 := (HW sc ar 81 oc rl ou tl, q)) rfl ?_
  refine RQ.if2 (a := (sc 8011)) (b := (-1)) rfl rfl rfl rfl (by omega) (by omega) (fun _ => ?_) (fun (q : ¬ sc 8011 ≠ (-1)) => absurd (show sc 8011 ≠ (-1) from by omega) q)
  refine RQ.seg 3 (pc' := 71) (L' := [some (.ref 80), some (.ref 81), some (.int (iI b0)), some (.int (iI n0))]) (st' := [.int (iI (-1)), .int (iI (sc 8011))]) (g1 := (HW sc ar 81 oc rl ou tl, q)) rfl ?_
  refine RQ.if2 (a := (sc 8011)) (b := (-1)) rfl rfl rfl rfl (by omega) (by omega) (fun _ => ?_) (fun (q : ¬ sc 8011 ≠ (-1)) => absurd (show sc 8011 ≠ (-1) from by omega) q)
  refine RQ.ret rfl rfl ?_
  exact hk
theorem m_gt81_l {K : PK} {d : Nat} {ar : Nat → Int → Int} {oc : Nat} {rl : Nat → Option Nat} {ou : Nat → Int64} {tl : List PO} {q : Nat × Nat} {tp : List Int} {bg b0 n0 : Int} (ht : TpOK tp) (hL : LtOK ar) {Q : Option Value → PG → Prop} : ∀ (m : Nat) (a hf fo : Int) (sc : Nat → Int) (hM : MX tp bg 160 (-1, a, []) 0 sc (ar 81)) (hF : 16 * ((tp.length : Int) - a) + 2 ≤ (m : Int)) (e13 : sc 8013 = 121) (e17 : sc 8017 = hf) (hf1 : hf = 0 ∨ hf = 1) (e14 : sc 8014 = fo) (fo1 : -1000000 ≤ fo ∧ fo ≤ 1000000) (hk : ∀ sc', Same cuF sc sc' → sc' 8011 = (tk tp m a).1 → ((tk tp m a).1 = -1 → FF (fun k => ar 84 (kc3 k)) (tk tp m a).2.2 hf fo (sc' 8017) (sc' 8014)) → Q none (HW sc' ar 81 oc rl ou tl, q)), RQ K (d + 49) 11 false none cd173 32 [some (.ref 80), some (.ref 81), some (.int (iI b0)), some (.int (iI n0))] [] (HW sc ar 81 oc rl ou tl, q) Q
  | 0, a, hf, fo, sc, hM, hF, e13, e17, hf1, e14, fo1, hk => by
    exfalso
    obtain ⟨hv, hA, hW, hWr, hDp, hG⟩ := id hM
    have g1 : sc 8010 = a := (hG rfl).1
    omega
  | 1, a, hf, fo, sc, hM, hF, e13, e17, hf1, e14, fo1, hk => by
    exfalso
    obtain ⟨hv, hA, hW, hWr, hDp, hG⟩ := id hM
    have g1 : sc 8010 = a := (hG rfl).1
    omega
  | m + 2, a, hf, fo, sc, hM, hF, e13, e17, hf1, e14, fo1, hk => by
    have ht1 := ht.1
    obtain ⟨hv, hA, hW, hWr, hDp, hG⟩ := id hM
    obtain ⟨g1, g2⟩ := hG rfl
    replace g1 : sc 8010 = a := g1
    replace hW : sc 8011 = -1 := hW
    have hsk := sk_r (tp := tp) (p := a) (by omega)
    have hlk : 0 ≤ lk tp a ∧ lk tp a ≤ 255 := tch_r ht (sk tp a)
    have hlm := lkm_r hlk
    have hP := mp81_all (K := K) (bg := bg) ht hL m
    refine RQ.seg 3 (pc' := 37) (L' := [some (.ref 80), some (.ref 81), some (.int (iI b0)), some (.int (iI n0))]) (st' := [.int (iI (-1)), .int (iI (sc 8011))]) (g1 := (HW sc ar 81 oc rl ou tl, q)) rfl ?_
    refine RQ.if2 (a := (sc 8011)) (b := (-1)) rfl rfl rfl rfl (by omega) (by omega) (fun (q : sc 8011 ≠ (-1)) => absurd q (show ¬ sc 8011 ≠ (-1) from by omega)) (fun _ => ?_)
    refine RQ.seg 1 (pc' := 41) (L' := [some (.ref 80), some (.ref 81), some (.int (iI b0)), some (.int (iI n0))]) (st' := [.ref 80]) (g1 := (HW sc ar 81 oc rl ou tl, q)) rfl ?_
    refine RQ.call rfl rfl (CallR.up (d := 1) (m_look81 (d := 0) (sc := sc) (ar := ar) (a := a) ht hv g1 (by omega)) (by omega)) ?_
    refine RQ.seg 1 (pc' := 46) (L' := [some (.ref 80), some (.ref 81), some (.int (iI b0)), some (.int (iI n0))]) (st' := [.int (iI 59), .int (iI (lkm (lk tp a)))]) (g1 := (HW (usc sc 8010 (sk tp a)) ar 81 oc rl ou tl, q)) rfl ?_
    refine RQ.if2 (a := (lkm (lk tp a))) (b := 59) rfl rfl rfl rfl (by omega) (by omega) (fun (h2 : lkm (lk tp a) ≠ 59) => ?_) (fun (h2 : ¬ lkm (lk tp a) ≠ 59) => ?_)
    · skip
      refine RQ.seg 3 (pc' := 71) (L' := [some (.ref 80), some (.ref 81), some (.int (iI b0)), some (.int (iI n0))]) (st' := [.int (iI (-1)), .int (iI (sc 8011))]) (g1 := (HW (usc sc 8010 (sk tp a)) ar 81 oc rl ou tl, q)) rfl ?_
      refine RQ.if2 (a := (sc 8011)) (b := (-1)) rfl rfl rfl rfl (by omega) (by omega) (fun (q : sc 8011 ≠ (-1)) => absurd q (show ¬ sc 8011 ≠ (-1) from by omega)) (fun _ => ?_)
      refine RQ.seg 1 (pc' := 75) (L' := [some (.ref 80), some (.ref 81), some (.int (iI b0)), some (.int (iI n0))]) (st' := [.ref 80]) (g1 := (HW (usc sc 8010 (sk tp a)) ar 81 oc rl ou tl, q)) rfl ?_
      have hcall := m_look81 (K := K) (d := 0) (oc := oc) (rl := rl) (ou := ou) (tl := tl) (q := q) (sc := usc sc 8010 (sk tp a)) (ar := ar) (a := sk tp a) ht hv rfl (by omega)
      rw [lk_sk, sk_sk] at hcall
      refine RQ.call rfl rfl (CallR.up hcall (by omega)) ?_
      refine RQ.hp (g1 := (HW (usc sc 8010 (sk tp a)) ar 81 oc rl ou tl, q)) (HW_e (by rw [usc_uu _ 8010 _ _]; try rfl) rfl) ?_
      refine RQ.seg 1 (pc' := 79) (L' := [some (.ref 80), some (.ref 81), some (.int (iI b0)), some (.int (iI n0))]) (st' := [.int (iI (-1)), .int (iI (lkm (lk tp a)))]) (g1 := (HW (usc sc 8010 (sk tp a)) ar 81 oc rl ou tl, q)) rfl ?_
      refine RQ.if2 (a := (lkm (lk tp a))) (b := (-1)) rfl rfl rfl rfl (by omega) (by omega) (fun (h4 : lkm (lk tp a) = (-1)) => ?_) (fun (h4 : ¬ lkm (lk tp a) = (-1)) => ?_)
      · skip
        refine RQ.ret rfl rfl ?_
        have e0 : lk tp a = 0 := by have := hlm.2.2.2.1; omega
        rw [tk_0 e0] at hk
        exact hk _ (by repeat (first | exact Same.rf | refine Same.us rfl ?_)) hW (fun _ => by show FF _ [] hf fo (sc 8017) (sc 8014); rw [e17, e14]; exact FF.nil)
      · skip
        refine RQ.seg 1 (pc' := 83) (L' := [some (.ref 80), some (.ref 81), some (.int (iI b0)), some (.int (iI n0))]) (st' := [.ref 80]) (g1 := (HW (usc sc 8010 (sk tp a)) ar 81 oc rl ou tl, q)) rfl ?_
        have hcall := m_fails (K := K) (d := 0) (tx := 81) (oc := oc) (rl := rl) (ou := ou) (tl := tl) (q := q) (sc := usc sc 8010 (sk tp a)) (ar := ar) (by show -1 ≤ sc 8011 ∧ sc 8011 ≤ 200; omega)
        rw [show (if (usc sc 8010 (sk tp a)) 8011 = -1 then (usc sc 8010 (sk tp a)) 8010 else (usc sc 8010 (sk tp a)) 8011) = sk tp a from if_pos hW] at hcall
        refine RQ.call rfl rfl (CallR.up hcall (by omega)) ?_
        refine RQ.seg 1 (pc' := 87) (L' := [some (.ref 80), some (.ref 81), some (.int (iI b0)), some (.int (iI n0))]) (st' := []) (g1 := (HW (usc (usc sc 8010 (sk tp a)) 8011 (sk tp a)) ar 81 oc rl ou tl, q)) rfl ?_
        refine RQ.ret rfl rfl ?_
        have hb0 := hlm.2.2.2.2
        have e0 : ¬ lk tp a = 0 := fun z => by have := hb0 z; omega
        have eT := tk_n (m := m + 2) e0 (show ¬ lk tp a = 59 by omega) (by omega)
        exact hk _ (by repeat (first | exact Same.rf | refine Same.us rfl ?_)) eT.symm (fun z => absurd (eT.symm.trans z) (by omega))
    · skip
      refine RQ.seg 5 (pc' := 56) (L' := [some (.ref 80), some (.ref 81), some (.int (iI b0)), some (.int (iI n0))]) (st' := [.int ((iI (sk tp a)) + (iI 1)), .ref 80]) (g1 := (HW (usc sc 8010 (sk tp a)) ar 81 oc rl ou tl, q)) rfl ?_
      refine RQ.to (L' := [some (.ref 80), some (.ref 81), some (.int (iI b0)), some (.int (iI n0))]) (st' := [.int (iI (sk tp a + 1)), .ref 80]) rfl (by simp only [iI_add, iI_sub, iI_mul, iI_neg]) ?_
      refine RQ.seg 2 (pc' := 60) (L' := [some (.ref 80), some (.ref 81), some (.int (iI b0)), some (.int (iI n0))]) (st' := [.ref 80]) (g1 := (HW (usc sc 8010 (sk tp a + 1)) ar 81 oc rl ou tl, q)) rfl ?_
      have hps := lk_in (tp := tp) (a := a) (by omega) (by omega)
      refine RQ.callQ rfl rfl (CQ.up (m_clause81 (D := 48) ht hP (a := sk tp a + 1) (hf := hf) (fo := fo) (sc := usc sc 8010 (sk tp a + 1)) (Nat.le_refl _) ⟨hv, by show 0 ≤ sk tp a + 1 ∧ sk tp a + 1 ≤ _; omega, hW, hWr, hDp, fun _ => ⟨rfl, g2⟩⟩ (by omega) e13 e17 hf1 e14 fo1) (by omega)) (fun rv9 g9 hc9 => ?_)
      obtain ⟨rfl, sc1, rfl, hs1, hM1, hf2, fo2, hFF⟩ := hc9
      obtain ⟨hv_1, hA_1, hW_1, hWr_1, hD_1, hG_1⟩ := id hM1
      have hS1 : Same cuF sc sc1 := Same.tr (by repeat (first | exact Same.rf | refine Same.us rfl ?_)) hs1
      rw [tk_s (show lk tp a = 59 by omega)] at hk
      refine RQ.seg 1 (pc' := 32) (L' := [some (.ref 80), some (.ref 81), some (.int (iI b0)), some (.int (iI n0))]) (st' := []) (g1 := (HW sc1 ar 81 oc rl ou tl, q)) rfl ?_
      rcases Decidable.em ((rClause tp (rd tp m) (sk tp a + 1)).1 = -1) with he | he
      · obtain ⟨k1, k1d⟩ := hG_1 he
        have hb : sk tp a + 1 + 1 ≤ (rClause tp (rd tp m) (sk tp a + 1)).2.1 ∧ _ := ((rd_ok (tp := tp) (m + 1)).at 13 0 (a := sk tp a + 1) (by omega)).2 he
        rw [rsq_p he] at hk
        refine m_gt81_l ht hL (m + 1) (rClause tp (rd tp m) (sk tp a + 1)).2.1 (sc1 8017) (sc1 8014) sc1 ⟨hv_1, hA_1, hW_1.trans he, by show (-1 : Int) ≤ -1 ∧ (-1 : Int) ≤ 160; omega, hD_1, fun _ => ⟨k1, k1d⟩⟩ (by omega) ((hS1 8013 rfl).trans e13) rfl hf2 rfl fo2 (fun sc' z1 z2 z3 => hk sc' (hS1.tr z1) z2 (fun z => ?_))
        exact (show FF _ ((rClause tp (rd tp m) (sk tp a + 1)).2.2 ++ (tk tp (m + 1) (rClause tp (rd tp m) (sk tp a + 1)).2.1).2.2) hf fo (sc' 8017) (sc' 8014) from FF.tr (hFF he) (z3 z))
      · rw [rsq_b he] at hk
        exact m_gt81_b (by omega) (by omega) (hk sc1 hS1 hW_1 (fun z => absurd z he))
theorem m_goT81 {K : PK} {d : Nat} {sc : Nat → Int} {ar : Nat → Int → Int} {tx oc : Nat} {rl : Nat → Option Nat} {ou : Nat → Int64} {tl : List PO} {q : Nat × Nat} {tp : List Int} {bg n0 : Int} (ht : TpOK tp) (hL : LtOK ar) (hn : n0 = (tp.length : Int)) (hv1 : 0 ≤ bg ∧ bg + 160 ≤ 160) (hv4 : ∀ k, 0 ≤ k → k < (tp.length : Int) → ar 81 (bg + k) = sgb (lat tp k)) : CQ K (d + 50) 173 [.ref 80, .ref 81, .int (iI bg), .int (iI n0)] (HW sc ar tx oc rl ou tl, q) (fun v g' => v = none ∧ ∃ sc', g' = (HW sc' ar 81 oc rl ou tl, q) ∧ Same gtF sc sc' ∧ sc' 8011 = rlF tp ∧ (rlF tp = -1 → sc' 8014 = wo (fun k => ar 84 (kc3 k)) (rl9 tp).2.2 false [])) := by
  have ht1 := ht.1
  refine CQ.of (own := 11) (n := 4) (ini := false) (rt := none) (cd := cd173) (by decide +kernel) rfl (by decide +kernel) rfl (Nat.le_of_ble_eq_true rfl) ?_
  refine RQ.seg 4 (pc' := 4) (L' := [some (.ref 80), some (.ref 81), some (.int (iI bg)), some (.int (iI n0))]) (st' := [.int (iI n0), .int (iI bg), .ref 81, .ref 80]) (g1 := (HW sc ar tx oc rl ou tl, q)) rfl ?_
  refine RQ.call rfl rfl (CallR.up (d := 1) (m_opens81 (d := 0)) (by omega)) ?_
  refine RQ.seg 13 (pc' := 29) (L' := [some (.ref 80), some (.ref 81), some (.int (iI bg)), some (.int (iI n0))]) (st' := [.ref 80]) (g1 := (HW (usc (usc (usc (usc (usc (usc (usc (usc sc 8008 bg) 8009 n0) 8010 0) 8011 (-1)) 8012 0) 8013 121) 8014 0) 8017 0) ar 81 oc rl ou tl, q)) rfl ?_
  have hP := mp81_all (K := K) (bg := bg) ht hL 2998
  refine RQ.callQ rfl rfl (CQ.up (m_clause81 (D := 48) ht hP (a := 0) (hf := 0) (fo := 0) (sc := usc (usc (usc (usc (usc (usc (usc (usc sc 8008 bg) 8009 n0) 8010 0) 8011 (-1)) 8012 0) 8013 121) 8014 0) 8017 0) (Nat.le_refl _) ⟨⟨hv1, rfl, hn, hv4⟩, by show (0 : Int) ≤ 0 ∧ (0 : Int) ≤ _; omega, rfl, by show (-1 : Int) ≤ -1 ∧ (-1 : Int) ≤ 160; omega, by show (0 : Int) ≤ 0 ∧ (0 : Int) ≤ 6; omega, fun _ => ⟨rfl, rfl⟩⟩ (by omega) rfl rfl (Or.inl rfl) rfl (by omega)) (by omega)) (fun rv9 g9 hc9 => ?_)
  obtain ⟨rfl, sc1, rfl, hs1, hM1, hf2, fo2, hFF⟩ := hc9
  obtain ⟨hv_1, hA_1, hW_1, hWr_1, hD_1, hG_1⟩ := id hM1
  have hS1 : Same gtF sc sc1 := Same.tr (by repeat (first | exact Same.rf | refine Same.us rfl ?_)) (Same.w rfl hs1)
  rcases Decidable.em ((rClause tp (rd tp 2998) 0).1 = -1) with he | he
  · obtain ⟨k1, k1d⟩ := hG_1 he
    have hb : (0 : Int) + 1 ≤ (rClause tp (rd tp 2998) 0).2.1 ∧ _ := ((rd_ok (tp := tp) 2999).at 13 0 (a := 0) (by omega)).2 he
    have eR : rl9 tp = pre (rClause tp (rd tp 2998) 0).2.2 (tk tp 2999 (rClause tp (rd tp 2998) 0).2.1) := rl9_c.trans (rsq_p he)
    refine m_gt81_l ht hL 2999 (rClause tp (rd tp 2998) 0).2.1 (sc1 8017) (sc1 8014) sc1 ⟨hv_1, hA_1, hW_1.trans he, by show (-1 : Int) ≤ -1 ∧ (-1 : Int) ≤ 160; omega, hD_1, fun _ => ⟨k1, k1d⟩⟩ (by omega) (hs1 8013 rfl) rfl hf2 rfl fo2 (fun sc' z1 z2 z3 => ?_)
    have eF : rlF tp = (tk tp 2999 (rClause tp (rd tp 2998) 0).2.1).1 := by show (rl9 tp).1 = _; rw [eR]; rfl
    refine ⟨rfl, _, rfl, hS1.tr (Same.w rfl z1), z2.trans eF.symm, fun z => ?_⟩
    rw [eR]
    exact FF.fin (FF.tr (hFF he) (z3 (eF.symm.trans z)))
  · have eR : rl9 tp = (rClause tp (rd tp 2998) 0) := rl9_c.trans (rsq_b he)
    have eF : rlF tp = (rClause tp (rd tp 2998) 0).1 := by show (rl9 tp).1 = _; rw [eR]
    exact m_gt81_b (by omega) (by omega) ⟨rfl, _, rfl, hS1, hW_1.trans eF.symm, fun z => absurd (eF.symm.trans z) he⟩
theorem m_gt82_b {K : PK} {d : Nat} {ar : Nat → Int → Int} {oc : Nat} {rl : Nat → Option Nat} {ou : Nat → Int64} {tl : List PO} {q : Nat × Nat} {b0 n0 : Int} {Q : Option Value → PG → Prop} {sc : Nat → Int} (hr : -1 ≤ sc 8011 ∧ sc 8011 ≤ 160) (hw : ¬ sc 8011 = -1) (hk : Q none (HW sc ar 82 oc rl ou tl, q)) : RQ K (d + 49) 11 false none cd173 32 [some (.ref 80), some (.ref 82), some (.int (iI b0)), some (.int (iI n0))] [] (HW sc ar 82 oc rl ou tl, q) Q := by
  refine RQ.seg 3 (pc' := 37) (L' := [some (.ref 80), some (.ref 82), some (.int (iI b0)), some (.int (iI n0))]) (st' := [.int (iI (-1)), .int (iI (sc 8011))]) (g1 := (HW sc ar 82 oc rl ou tl, q)) rfl ?_
  refine RQ.if2 (a := (sc 8011)) (b := (-1)) rfl rfl rfl rfl (by omega) (by omega) (fun _ => ?_) (fun (q : ¬ sc 8011 ≠ (-1)) => absurd (show sc 8011 ≠ (-1) from by omega) q)
  refine RQ.seg 3 (pc' := 71) (L' := [some (.ref 80), some (.ref 82), some (.int (iI b0)), some (.int (iI n0))]) (st' := [.int (iI (-1)), .int (iI (sc 8011))]) (g1 := (HW sc ar 82 oc rl ou tl, q)) rfl ?_
  refine RQ.if2 (a := (sc 8011)) (b := (-1)) rfl rfl rfl rfl (by omega) (by omega) (fun _ => ?_) (fun (q : ¬ sc 8011 ≠ (-1)) => absurd (show sc 8011 ≠ (-1) from by omega) q)
  refine RQ.ret rfl rfl ?_
  exact hk
theorem m_gt82_l {K : PK} {d : Nat} {ar : Nat → Int → Int} {oc : Nat} {rl : Nat → Option Nat} {ou : Nat → Int64} {tl : List PO} {q : Nat × Nat} {tp : List Int} {bg b0 n0 : Int} (ht : TpOK tp) (hL : LtOK ar) {Q : Option Value → PG → Prop} : ∀ (m : Nat) (a hf fo : Int) (sc : Nat → Int) (hM : MX tp bg 640 (-1, a, []) 0 sc (ar 82)) (hF : 16 * ((tp.length : Int) - a) + 2 ≤ (m : Int)) (e13 : sc 8013 = 121) (e17 : sc 8017 = hf) (hf1 : hf = 0 ∨ hf = 1) (e14 : sc 8014 = fo) (fo1 : -1000000 ≤ fo ∧ fo ≤ 1000000) (hk : ∀ sc', Same cuF sc sc' → sc' 8011 = (tk tp m a).1 → ((tk tp m a).1 = -1 → FF (fun k => ar 84 (kc3 k)) (tk tp m a).2.2 hf fo (sc' 8017) (sc' 8014)) → Q none (HW sc' ar 82 oc rl ou tl, q)), RQ K (d + 49) 11 false none cd173 32 [some (.ref 80), some (.ref 82), some (.int (iI b0)), some (.int (iI n0))] [] (HW sc ar 82 oc rl ou tl, q) Q
  | 0, a, hf, fo, sc, hM, hF, e13, e17, hf1, e14, fo1, hk => by
    exfalso
    obtain ⟨hv, hA, hW, hWr, hDp, hG⟩ := id hM
    have g1 : sc 8010 = a := (hG rfl).1
    omega
  | 1, a, hf, fo, sc, hM, hF, e13, e17, hf1, e14, fo1, hk => by
    exfalso
    obtain ⟨hv, hA, hW, hWr, hDp, hG⟩ := id hM
    have g1 : sc 8010 = a := (hG rfl).1
    omega
  | m + 2, a, hf, fo, sc, hM, hF, e13, e17, hf1, e14, fo1, hk => by
    have ht1 := ht.1
    obtain ⟨hv, hA, hW, hWr, hDp, hG⟩ := id hM
    obtain ⟨g1, g2⟩ := hG rfl
    replace g1 : sc 8010 = a := g1
    replace hW : sc 8011 = -1 := hW
    have hsk := sk_r (tp := tp) (p := a) (by omega)
    have hlk : 0 ≤ lk tp a ∧ lk tp a ≤ 255 := tch_r ht (sk tp a)
    have hlm := lkm_r hlk
    have hP := mp82_all (K := K) (bg := bg) ht hL m
    refine RQ.seg 3 (pc' := 37) (L' := [some (.ref 80), some (.ref 82), some (.int (iI b0)), some (.int (iI n0))]) (st' := [.int (iI (-1)), .int (iI (sc 8011))]) (g1 := (HW sc ar 82 oc rl ou tl, q)) rfl ?_
    refine RQ.if2 (a := (sc 8011)) (b := (-1)) rfl rfl rfl rfl (by omega) (by omega) (fun (q : sc 8011 ≠ (-1)) => absurd q (show ¬ sc 8011 ≠ (-1) from by omega)) (fun _ => ?_)
    refine RQ.seg 1 (pc' := 41) (L' := [some (.ref 80), some (.ref 82), some (.int (iI b0)), some (.int (iI n0))]) (st' := [.ref 80]) (g1 := (HW sc ar 82 oc rl ou tl, q)) rfl ?_
    refine RQ.call rfl rfl (CallR.up (d := 1) (m_look82 (d := 0) (sc := sc) (ar := ar) (a := a) ht hv g1 (by omega)) (by omega)) ?_
    refine RQ.seg 1 (pc' := 46) (L' := [some (.ref 80), some (.ref 82), some (.int (iI b0)), some (.int (iI n0))]) (st' := [.int (iI 59), .int (iI (lkm (lk tp a)))]) (g1 := (HW (usc sc 8010 (sk tp a)) ar 82 oc rl ou tl, q)) rfl ?_
    refine RQ.if2 (a := (lkm (lk tp a))) (b := 59) rfl rfl rfl rfl (by omega) (by omega) (fun (h2 : lkm (lk tp a) ≠ 59) => ?_) (fun (h2 : ¬ lkm (lk tp a) ≠ 59) => ?_)
    · skip
      refine RQ.seg 3 (pc' := 71) (L' := [some (.ref 80), some (.ref 82), some (.int (iI b0)), some (.int (iI n0))]) (st' := [.int (iI (-1)), .int (iI (sc 8011))]) (g1 := (HW (usc sc 8010 (sk tp a)) ar 82 oc rl ou tl, q)) rfl ?_
      refine RQ.if2 (a := (sc 8011)) (b := (-1)) rfl rfl rfl rfl (by omega) (by omega) (fun (q : sc 8011 ≠ (-1)) => absurd q (show ¬ sc 8011 ≠ (-1) from by omega)) (fun _ => ?_)
      refine RQ.seg 1 (pc' := 75) (L' := [some (.ref 80), some (.ref 82), some (.int (iI b0)), some (.int (iI n0))]) (st' := [.ref 80]) (g1 := (HW (usc sc 8010 (sk tp a)) ar 82 oc rl ou tl, q)) rfl ?_
      have hcall := m_look82 (K := K) (d := 0) (oc := oc) (rl := rl) (ou := ou) (tl := tl) (q := q) (sc := usc sc 8010 (sk tp a)) (ar := ar) (a := sk tp a) ht hv rfl (by omega)
      rw [lk_sk, sk_sk] at hcall
      refine RQ.call rfl rfl (CallR.up hcall (by omega)) ?_
      refine RQ.hp (g1 := (HW (usc sc 8010 (sk tp a)) ar 82 oc rl ou tl, q)) (HW_e (by rw [usc_uu _ 8010 _ _]; try rfl) rfl) ?_
      refine RQ.seg 1 (pc' := 79) (L' := [some (.ref 80), some (.ref 82), some (.int (iI b0)), some (.int (iI n0))]) (st' := [.int (iI (-1)), .int (iI (lkm (lk tp a)))]) (g1 := (HW (usc sc 8010 (sk tp a)) ar 82 oc rl ou tl, q)) rfl ?_
      refine RQ.if2 (a := (lkm (lk tp a))) (b := (-1)) rfl rfl rfl rfl (by omega) (by omega) (fun (h4 : lkm (lk tp a) = (-1)) => ?_) (fun (h4 : ¬ lkm (lk tp a) = (-1)) => ?_)
      · skip
        refine RQ.ret rfl rfl ?_
        have e0 : lk tp a = 0 := by have := hlm.2.2.2.1; omega
        rw [tk_0 e0] at hk
        exact hk _ (by repeat (first | exact Same.rf | refine Same.us rfl ?_)) hW (fun _ => by show FF _ [] hf fo (sc 8017) (sc 8014); rw [e17, e14]; exact FF.nil)
      · skip
        refine RQ.seg 1 (pc' := 83) (L' := [some (.ref 80), some (.ref 82), some (.int (iI b0)), some (.int (iI n0))]) (st' := [.ref 80]) (g1 := (HW (usc sc 8010 (sk tp a)) ar 82 oc rl ou tl, q)) rfl ?_
        have hcall := m_fails (K := K) (d := 0) (tx := 82) (oc := oc) (rl := rl) (ou := ou) (tl := tl) (q := q) (sc := usc sc 8010 (sk tp a)) (ar := ar) (by show -1 ≤ sc 8011 ∧ sc 8011 ≤ 200; omega)
        rw [show (if (usc sc 8010 (sk tp a)) 8011 = -1 then (usc sc 8010 (sk tp a)) 8010 else (usc sc 8010 (sk tp a)) 8011) = sk tp a from if_pos hW] at hcall
        refine RQ.call rfl rfl (CallR.up hcall (by omega)) ?_
        refine RQ.seg 1 (pc' := 87) (L' := [some (.ref 80), some (.ref 82), some (.int (iI b0)), some (.int (iI n0))]) (st' := []) (g1 := (HW (usc (usc sc 8010 (sk tp a)) 8011 (sk tp a)) ar 82 oc rl ou tl, q)) rfl ?_
        refine RQ.ret rfl rfl ?_
        have hb0 := hlm.2.2.2.2
        have e0 : ¬ lk tp a = 0 := fun z => by have := hb0 z; omega
        have eT := tk_n (m := m + 2) e0 (show ¬ lk tp a = 59 by omega) (by omega)
        exact hk _ (by repeat (first | exact Same.rf | refine Same.us rfl ?_)) eT.symm (fun z => absurd (eT.symm.trans z) (by omega))
    · skip
      refine RQ.seg 5 (pc' := 56) (L' := [some (.ref 80), some (.ref 82), some (.int (iI b0)), some (.int (iI n0))]) (st' := [.int ((iI (sk tp a)) + (iI 1)), .ref 80]) (g1 := (HW (usc sc 8010 (sk tp a)) ar 82 oc rl ou tl, q)) rfl ?_
      refine RQ.to (L' := [some (.ref 80), some (.ref 82), some (.int (iI b0)), some (.int (iI n0))]) (st' := [.int (iI (sk tp a + 1)), .ref 80]) rfl (by simp only [iI_add, iI_sub, iI_mul, iI_neg]) ?_
      refine RQ.seg 2 (pc' := 60) (L' := [some (.ref 80), some (.ref 82), some (.int (iI b0)), some (.int (iI n0))]) (st' := [.ref 80]) (g1 := (HW (usc sc 8010 (sk tp a + 1)) ar 82 oc rl ou tl, q)) rfl ?_
      have hps := lk_in (tp := tp) (a := a) (by omega) (by omega)
      refine RQ.callQ rfl rfl (CQ.up (m_clause82 (D := 48) ht hP (a := sk tp a + 1) (hf := hf) (fo := fo) (sc := usc sc 8010 (sk tp a + 1)) (Nat.le_refl _) ⟨hv, by show 0 ≤ sk tp a + 1 ∧ sk tp a + 1 ≤ _; omega, hW, hWr, hDp, fun _ => ⟨rfl, g2⟩⟩ (by omega) e13 e17 hf1 e14 fo1) (by omega)) (fun rv9 g9 hc9 => ?_)
      obtain ⟨rfl, sc1, rfl, hs1, hM1, hf2, fo2, hFF⟩ := hc9
      obtain ⟨hv_1, hA_1, hW_1, hWr_1, hD_1, hG_1⟩ := id hM1
      have hS1 : Same cuF sc sc1 := Same.tr (by repeat (first | exact Same.rf | refine Same.us rfl ?_)) hs1
      rw [tk_s (show lk tp a = 59 by omega)] at hk
      refine RQ.seg 1 (pc' := 32) (L' := [some (.ref 80), some (.ref 82), some (.int (iI b0)), some (.int (iI n0))]) (st' := []) (g1 := (HW sc1 ar 82 oc rl ou tl, q)) rfl ?_
      rcases Decidable.em ((rClause tp (rd tp m) (sk tp a + 1)).1 = -1) with he | he
      · obtain ⟨k1, k1d⟩ := hG_1 he
        have hb : sk tp a + 1 + 1 ≤ (rClause tp (rd tp m) (sk tp a + 1)).2.1 ∧ _ := ((rd_ok (tp := tp) (m + 1)).at 13 0 (a := sk tp a + 1) (by omega)).2 he
        rw [rsq_p he] at hk
        refine m_gt82_l ht hL (m + 1) (rClause tp (rd tp m) (sk tp a + 1)).2.1 (sc1 8017) (sc1 8014) sc1 ⟨hv_1, hA_1, hW_1.trans he, by show (-1 : Int) ≤ -1 ∧ (-1 : Int) ≤ 160; omega, hD_1, fun _ => ⟨k1, k1d⟩⟩ (by omega) ((hS1 8013 rfl).trans e13) rfl hf2 rfl fo2 (fun sc' z1 z2 z3 => hk sc' (hS1.tr z1) z2 (fun z => ?_))
        exact (show FF _ ((rClause tp (rd tp m) (sk tp a + 1)).2.2 ++ (tk tp (m + 1) (rClause tp (rd tp m) (sk tp a + 1)).2.1).2.2) hf fo (sc' 8017) (sc' 8014) from FF.tr (hFF he) (z3 z))
      · rw [rsq_b he] at hk
        exact m_gt82_b (by omega) (by omega) (hk sc1 hS1 hW_1 (fun z => absurd z he))
theorem m_goT82 {K : PK} {d : Nat} {sc : Nat → Int} {ar : Nat → Int → Int} {tx oc : Nat} {rl : Nat → Option Nat} {ou : Nat → Int64} {tl : List PO} {q : Nat × Nat} {tp : List Int} {bg n0 : Int} (ht : TpOK tp) (hL : LtOK ar) (hn : n0 = (tp.length : Int)) (hv1 : 0 ≤ bg ∧ bg + 160 ≤ 640) (hv4 : ∀ k, 0 ≤ k → k < (tp.length : Int) → ar 82 (bg + k) = sgb (lat tp k)) : CQ K (d + 50) 173 [.ref 80, .ref 82, .int (iI bg), .int (iI n0)] (HW sc ar tx oc rl ou tl, q) (fun v g' => v = none ∧ ∃ sc', g' = (HW sc' ar 82 oc rl ou tl, q) ∧ Same gtF sc sc' ∧ sc' 8011 = rlF tp ∧ (rlF tp = -1 → sc' 8014 = wo (fun k => ar 84 (kc3 k)) (rl9 tp).2.2 false [])) := by
  have ht1 := ht.1
  refine CQ.of (own := 11) (n := 4) (ini := false) (rt := none) (cd := cd173) (by decide +kernel) rfl (by decide +kernel) rfl (Nat.le_of_ble_eq_true rfl) ?_
  refine RQ.seg 4 (pc' := 4) (L' := [some (.ref 80), some (.ref 82), some (.int (iI bg)), some (.int (iI n0))]) (st' := [.int (iI n0), .int (iI bg), .ref 82, .ref 80]) (g1 := (HW sc ar tx oc rl ou tl, q)) rfl ?_
  refine RQ.call rfl rfl (CallR.up (d := 1) (m_opens82 (d := 0)) (by omega)) ?_
  refine RQ.seg 13 (pc' := 29) (L' := [some (.ref 80), some (.ref 82), some (.int (iI bg)), some (.int (iI n0))]) (st' := [.ref 80]) (g1 := (HW (usc (usc (usc (usc (usc (usc (usc (usc sc 8008 bg) 8009 n0) 8010 0) 8011 (-1)) 8012 0) 8013 121) 8014 0) 8017 0) ar 82 oc rl ou tl, q)) rfl ?_
  have hP := mp82_all (K := K) (bg := bg) ht hL 2998
  refine RQ.callQ rfl rfl (CQ.up (m_clause82 (D := 48) ht hP (a := 0) (hf := 0) (fo := 0) (sc := usc (usc (usc (usc (usc (usc (usc (usc sc 8008 bg) 8009 n0) 8010 0) 8011 (-1)) 8012 0) 8013 121) 8014 0) 8017 0) (Nat.le_refl _) ⟨⟨hv1, rfl, hn, hv4⟩, by show (0 : Int) ≤ 0 ∧ (0 : Int) ≤ _; omega, rfl, by show (-1 : Int) ≤ -1 ∧ (-1 : Int) ≤ 160; omega, by show (0 : Int) ≤ 0 ∧ (0 : Int) ≤ 6; omega, fun _ => ⟨rfl, rfl⟩⟩ (by omega) rfl rfl (Or.inl rfl) rfl (by omega)) (by omega)) (fun rv9 g9 hc9 => ?_)
  obtain ⟨rfl, sc1, rfl, hs1, hM1, hf2, fo2, hFF⟩ := hc9
  obtain ⟨hv_1, hA_1, hW_1, hWr_1, hD_1, hG_1⟩ := id hM1
  have hS1 : Same gtF sc sc1 := Same.tr (by repeat (first | exact Same.rf | refine Same.us rfl ?_)) (Same.w rfl hs1)
  rcases Decidable.em ((rClause tp (rd tp 2998) 0).1 = -1) with he | he
  · obtain ⟨k1, k1d⟩ := hG_1 he
    have hb : (0 : Int) + 1 ≤ (rClause tp (rd tp 2998) 0).2.1 ∧ _ := ((rd_ok (tp := tp) 2999).at 13 0 (a := 0) (by omega)).2 he
    have eR : rl9 tp = pre (rClause tp (rd tp 2998) 0).2.2 (tk tp 2999 (rClause tp (rd tp 2998) 0).2.1) := rl9_c.trans (rsq_p he)
    refine m_gt82_l ht hL 2999 (rClause tp (rd tp 2998) 0).2.1 (sc1 8017) (sc1 8014) sc1 ⟨hv_1, hA_1, hW_1.trans he, by show (-1 : Int) ≤ -1 ∧ (-1 : Int) ≤ 160; omega, hD_1, fun _ => ⟨k1, k1d⟩⟩ (by omega) (hs1 8013 rfl) rfl hf2 rfl fo2 (fun sc' z1 z2 z3 => ?_)
    have eF : rlF tp = (tk tp 2999 (rClause tp (rd tp 2998) 0).2.1).1 := by show (rl9 tp).1 = _; rw [eR]; rfl
    refine ⟨rfl, _, rfl, hS1.tr (Same.w rfl z1), z2.trans eF.symm, fun z => ?_⟩
    rw [eR]
    exact FF.fin (FF.tr (hFF he) (z3 (eF.symm.trans z)))
  · have eR : rl9 tp = (rClause tp (rd tp 2998) 0) := rl9_c.trans (rsq_b he)
    have eF : rlF tp = (rClause tp (rd tp 2998) 0).1 := by show (rl9 tp).1 = _; rw [eR]
    exact m_gt82_b (by omega) (by omega) ⟨rfl, _, rfl, hS1, hW_1.trans eF.symm, fun z => absurd (eF.symm.trans z) he⟩
