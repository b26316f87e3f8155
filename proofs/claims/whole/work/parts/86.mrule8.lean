/-! the reference reads a rule: clauses, the whole, by wip/tools -/
/-! the reference reads a rule: clauses, the whole -/
def cuF : List Nat := [8010, 8011, 8012, 8014, 8017]
theorem MX.cg {tp : List Int} {bg N dp : Int} {r r' : RS} {sc : Nat → Int} {f : Int → Int} (h : MX tp bg N r dp sc f) (e1 : r'.1 = r.1) (e2 : r.1 = -1 → r'.2.1 = r.2.1) : MX tp bg N r' dp sc f := by
  obtain ⟨h1, h2, h3, h4, h5, h6⟩ := h
  exact ⟨h1, h2, h3.trans e1.symm, by rw [e1]; exact h4, h5, fun z => ⟨(h6 (e1.symm.trans z)).1.trans (e2 (e1.symm.trans z)).symm, (h6 (e1.symm.trans z)).2⟩⟩
theorem MX.us {tp : List Int} {bg N dp : Int} {r : RS} {sc sc' : Nat → Int} {f : Int → Int} (h : MX tp bg N r dp sc f) (e : ∀ k, (k = 8008 ∨ k = 8009 ∨ k = 8010 ∨ k = 8011 ∨ k = 8012) → sc' k = sc k) : MX tp bg N r dp sc' f := by
  obtain ⟨h1, h2, h3, h4, h5, h6⟩ := h
  refine ⟨by rw [e 8008 (by omega), e 8009 (by omega)]; exact h1, by rw [e 8010 (by omega)]; exact h2, (e 8011 (by omega)).trans h3, h4, by rw [e 8012 (by omega)]; exact h5, fun z => ⟨(e 8010 (by omega)).trans (h6 z).1, (e 8012 (by omega)).trans (h6 z).2⟩⟩
def FF (L : Int → Int) (C : List Int) (hf fo hf' fo' : Int) : Prop := (hf = 1 → hf' = 1 ∧ fo' = fo) ∧ (hf = 0 → (hf' = 1 ∧ ∀ c, wo L (C ++ c) false [] = fo') ∨ (hf' = 0 ∧ fo' = fo ∧ ∀ c, wo L (C ++ c) false [] = wo L c false []))
theorem FF.h1 {L : Int → Int} {C : List Int} {hf fo : Int} (h : ¬ hf = 0) (h1 : hf = 0 ∨ hf = 1) : FF L C hf fo hf fo := ⟨fun z => ⟨z, rfl⟩, fun z => absurd z h⟩
theorem FF.t0 {L : Int → Int} {C : List Int} {hf fo v : Int} (h1 : hf = 0 ∨ hf = 1) (h : ∀ c, wo L (C ++ c) false [] = if (0 : Int) = 0 then wo L c false [] else v) : FF L C hf fo hf fo := ⟨fun z => ⟨z, rfl⟩, fun z => Or.inr ⟨z, rfl, h⟩⟩
theorem FF.t1 {L : Int → Int} {C : List Int} {hf fo v : Int} (h0 : hf = 0) (h : ∀ c, wo L (C ++ c) false [] = v) : FF L C hf fo 1 v := ⟨fun z => by omega, fun _ => Or.inl ⟨rfl, h⟩⟩
theorem FF.of {L : Int → Int} {C : List Int} {hf fo t v h9 f9 : Int} (h1 : hf = 0 ∨ hf = 1) (ht : t = 0 ∨ t = 1) (h : (hf = 0 ∧ t = 1 ∧ h9 = 1 ∧ f9 = v) ∨ (¬ (hf = 0 ∧ t = 1) ∧ h9 = hf ∧ f9 = fo)) (hw : ∀ c, wo L (C ++ c) false [] = if t = 0 then wo L c false [] else v) : FF L C hf fo h9 f9 := by
  rcases h with ⟨a1, a2, a3, a4⟩ | ⟨a1, a2, a3⟩
  · rw [a3, a4]
    exact FF.t1 a1 (fun c => (hw c).trans (if_neg (by omega)))
  · rw [a2, a3]
    rcases h1 with z | z
    · exact FF.t0 (Or.inl z) (v := v) (fun c => (hw c).trans ((if_pos (by omega)).trans (if_pos rfl).symm))
    · exact FF.h1 (by omega) (Or.inr z)
theorem cl_0 {tp : List Int} {f : RF} {a : Int} (h : ¬ lk tp a = 121) (h0 : ¬ sk tp a = -1) : (rClause tp f a).1 = sk tp a := by
  have e : rex tp 121 a = rno tp a := if_neg h
  have h1 : ¬ (rno tp a).1 = -1 := h0
  unfold rClause
  rw [e, rsq_b h1, rsq_b h1]
  rfl
theorem cl_1 {tp : List Int} {f : RF} {a : Int} (h : lk tp a = 121) : rClause tp f a = rap (rsq (pre [] (rex tp 58 (sk tp a + 1))) (rBody tp f)) (-12) := by
  have e : rex tp 121 a = (-1, sk tp a + 1, []) := if_pos h
  unfold rClause
  rw [e, rsq_1]
theorem cl_1b {tp : List Int} {f : RF} {a : Int} (h : lk tp a = 121) (E : ¬ (rex tp 58 (sk tp a + 1)).1 = -1) : (rClause tp f a).1 = (rex tp 58 (sk tp a + 1)).1 := by
  rw [cl_1 h, rsq_b (r := pre [] (rex tp 58 (sk tp a + 1))) E]
  rfl
theorem cl_1g {tp : List Int} {f : RF} {a : Int} (h : lk tp a = 121) (e : (rex tp 58 (sk tp a + 1)).1 = -1) : (rClause tp f a).1 = (rBody tp f (rex tp 58 (sk tp a + 1)).2.1).1 ∧ (rClause tp f a).2.1 = (rBody tp f (rex tp 58 (sk tp a + 1)).2.1).2.1 ∧ (rClause tp f a).2.2 = (rBody tp f (rex tp 58 (sk tp a + 1)).2.1).2.2 ++ [-12] := by
  rw [cl_1 h, rsq_p (r := pre [] (rex tp 58 (sk tp a + 1))) e]
  refine ⟨rfl, rfl, ?_⟩
  show ([] ++ (rex tp 58 (sk tp a + 1)).2.2) ++ (rBody tp f (rex tp 58 (sk tp a + 1)).2.1).2.2 ++ [-12] = _
  rw [rex_c]
  rfl
theorem th_b {tp : List Int} {f : RF} {nt : Nat} {a : Int} (E : ¬ (rsq (f nt 0 a) (rex tp 63)).1 = -1) : (rThen tp f nt a).1 = (rsq (f nt 0 a) (rex tp 63)).1 := by
  unfold rThen
  rw [rsq_b (r := rap (rsq (f nt 0 a) (rex tp 63)) (-11)) E]
  rfl
theorem th_g {tp : List Int} {f : RF} {nt : Nat} {a : Int} (e : (rsq (f nt 0 a) (rex tp 63)).1 = -1) : (rThen tp f nt a).1 = (f 2 0 (rsq (f nt 0 a) (rex tp 63)).2.1).1 ∧ (rThen tp f nt a).2.1 = (f 2 0 (rsq (f nt 0 a) (rex tp 63)).2.1).2.1 := by
  unfold rThen
  rw [rsq_p (r := rap (rsq (f nt 0 a) (rex tp 63)) (-11)) e]
  exact ⟨rfl, rfl⟩
theorem w_5 {tp : List Int} {f : RF} (hf : RfOK tp f) (ht : TyOK tp f) {L : Int → Int} {a t v : Int} (ha : 0 ≤ a ∧ a ≤ (tp.length : Int)) (z : (rThen tp f 5 a).1 = -1) (h1 : ev L (f 5 0 a).2.2 [] = [t]) (h2 : ev L (f 2 0 (rsq (f 5 0 a) (rex tp 63)).2.1).2.2 [] = [v]) (c : List Int) : wo L (((rThen tp f 5 a).2.2 ++ [-12]) ++ c) false [] = if t = 0 then wo L c false [] else v := by
  obtain ⟨k1, k2⟩ := rThen_t hf ht (nt := 5) (by omega) (by decide) ha z
  obtain ⟨-, -, -, e⟩ := rThen_c z
  rw [e, show ((f 5 0 a).2.2 ++ (-11 :: (f 2 0 (rsq (f 5 0 a) (rex tp 63)).2.1).2.2)) ++ [-12] = (f 5 0 a).2.2 ++ (-11 :: ((f 2 0 (rsq (f 5 0 a) (rex tp 63)).2.1).2.2 ++ [-12])) by rw [List.append_assoc]; rfl]
  exact wo_c2 k1 k2 h1 h2
theorem w_12 {tp : List Int} {f : RF} (hf : RfOK tp f) (ht : TyOK tp f) {L : Int → Int} {S : List Int} {a s t v : Int} (ha : 0 ≤ a ∧ a ≤ (tp.length : Int)) (z : (rThen tp f 12 a).1 = -1) (hS : tyr S [] = some [false]) (h0 : ev L S [] = [s]) (h1 : ev L (f 12 0 a).2.2 [s] = [t]) (h2 : ev L (f 2 0 (rsq (f 12 0 a) (rex tp 63)).2.1).2.2 [] = [v]) (c : List Int) : wo L (((S ++ (rThen tp f 12 a).2.2) ++ [-12]) ++ c) false [] = if t = 0 then wo L c false [] else v := by
  obtain ⟨k1, k2⟩ := rThen_t hf ht (nt := 12) (by omega) (by decide) ha z
  obtain ⟨-, -, -, e⟩ := rThen_c z
  rw [e, show (S ++ ((f 12 0 a).2.2 ++ (-11 :: (f 2 0 (rsq (f 12 0 a) (rex tp 63)).2.1).2.2))) ++ [-12] = (S ++ (f 12 0 a).2.2) ++ (-11 :: ((f 2 0 (rsq (f 12 0 a) (rex tp 63)).2.1).2.2 ++ [-12])) by rw [List.append_assoc, List.append_assoc, List.append_assoc]; rfl]
  exact wo_c2 (tyr_2 hS k1) k2 (by rw [ev_app, h0]; exact h1) h2
theorem w_0 {L : Int → Int} {S : List Int} {v : Int} (hS : tyr S [] = some [false]) (h0 : ev L S [] = [v]) (c : List Int) : wo L ((S ++ [-12]) ++ c) false [] = v := wo_c1 hS h0
theorem m_cf81 {K : PK} {D : Nat} {ar : Nat → Int → Int} {oc : Nat} {rl : Nat → Option Nat} {ou : Nat → Int64} {tl : List PO} {q : Nat × Nat} {Q : Option Value → PG → Prop} {sc : Nat → Int} {c0 is v : Int} {e4 : Option Value} {hf fo : Int} (e13 : sc 8013 = 121) (e17 : sc 8017 = hf) (hf1 : hf = 0 ∨ hf = 1) (e14 : sc 8014 = fo) (fo1 : -1000000 ≤ fo ∧ fo ≤ 1000000) (hc : c0 = 121) (his : is = 0 ∨ is = 1) (hr : -1 ≤ sc 8011 ∧ sc 8011 ≤ 160) (hk1 : ¬ (sc 8011 = -1 ∧ hf = 0 ∧ is = 1) → Q none (HW sc ar 81 oc rl ou tl, q)) (hk2 : (sc 8011 = -1 ∧ hf = 0 ∧ is = 1) → Q none (HW (usc (usc sc 8014 v) 8017 1) ar 81 oc rl ou tl, q)) : RQ K D 11 false none cd171 134 [some (.ref 80), some (.int (iI c0)), some (.int (iI is)), some (.int (iI v)), e4] [] (HW sc ar 81 oc rl ou tl, q) Q := by
  refine RQ.seg 3 (pc' := 139) (L' := [some (.ref 80), some (.int (iI c0)), some (.int (iI is)), some (.int (iI v)), e4]) (st' := [.int (iI (-1)), .int (iI (sc 8011))]) (g1 := (HW sc ar 81 oc rl ou tl, q)) rfl ?_
  refine RQ.if2 (a := (sc 8011)) (b := (-1)) rfl rfl rfl rfl (by omega) (by omega) (fun (h1 : sc 8011 ≠ (-1)) => ?_) (fun (h1 : ¬ sc 8011 ≠ (-1)) => ?_)
  · skip
    refine RQ.ret rfl rfl ?_
    exact hk1 (by omega)
  · skip
    refine RQ.seg 2 (pc' := 146) (L' := [some (.ref 80), some (.int (iI c0)), some (.int (iI is)), some (.int (iI v)), e4]) (st' := [.int (iI (sc 8017))]) (g1 := (HW sc ar 81 oc rl ou tl, q)) rfl ?_
    refine RQ.to (L' := [some (.ref 80), some (.int (iI c0)), some (.int (iI is)), some (.int (iI v)), e4]) (st' := [.int (iI hf)]) rfl (by rw [show sc 8017 = hf from e17]) ?_
    refine RQ.if1 (a := hf) rfl rfl rfl (by omega) (fun (h2 : hf ≠ 0) => ?_) (fun (h2 : ¬ hf ≠ 0) => ?_)
    · skip
      refine RQ.ret rfl rfl ?_
      exact hk1 (by omega)
    · skip
      refine RQ.seg 3 (pc' := 154) (L' := [some (.ref 80), some (.int (iI c0)), some (.int (iI is)), some (.int (iI v)), e4]) (st' := [.int (iI (sc 8013)), .int (iI c0)]) (g1 := (HW sc ar 81 oc rl ou tl, q)) rfl ?_
      refine RQ.to (L' := [some (.ref 80), some (.int (iI c0)), some (.int (iI is)), some (.int (iI v)), e4]) (st' := [.int (iI 121), .int (iI c0)]) rfl (by rw [show sc 8013 = 121 from e13]) ?_
      refine RQ.if2 (a := c0) (b := 121) rfl rfl rfl rfl (by omega) (by omega) (fun (h3 : c0 ≠ 121) => ?_) (fun (h3 : ¬ c0 ≠ 121) => ?_)
      · skip
        refine RQ.ret rfl rfl ?_
        exact hk1 (by omega)
      · skip
        refine RQ.seg 1 (pc' := 158) (L' := [some (.ref 80), some (.int (iI c0)), some (.int (iI is)), some (.int (iI v)), e4]) (st' := [.int (iI is)]) (g1 := (HW sc ar 81 oc rl ou tl, q)) rfl ?_
        refine RQ.if1 (a := is) rfl rfl rfl (by omega) (fun (h4 : is ≠ 0) => ?_) (fun (h4 : ¬ is ≠ 0) => ?_)
        · skip
          refine RQ.seg 6 (pc' := 172) (L' := [some (.ref 80), some (.int (iI c0)), some (.int (iI is)), some (.int (iI v)), e4]) (st' := []) (g1 := (HW (usc (usc sc 8014 v) 8017 1) ar 81 oc rl ou tl, q)) rfl ?_
          refine RQ.ret rfl rfl ?_
          first | exact hk2 (by omega) | exact hk1 (by omega)
        · skip
          refine RQ.ret rfl rfl ?_
          exact hk1 (by omega)
def QB_81 (tp : List Int) (bg : Int) (m : Nat) (r : RS) (hf fo is : Int) (sc : Nat → Int) (ar : Nat → Int → Int) (oc : Nat) (rl : Nat → Option Nat) (ou : Nat → Int64) (tl : List PO) (q : Nat × Nat) : Option Value → PG → Prop := fun v g' => v = none ∧ ∃ sc', g' = (HW sc' ar 81 oc rl ou tl, q) ∧ Same cuF sc sc' ∧ MX tp bg 160 (rsq (rap (rsq r (rex tp 63)) (-11)) (rd tp m 2 0)) 0 sc' (ar 81) ∧ (sc' 8017 = 0 ∨ sc' 8017 = 1) ∧ (-1000000 ≤ sc' 8014 ∧ sc' 8014 ≤ 1000000) ∧ ((rsq (rap (rsq r (rex tp 63)) (-11)) (rd tp m 2 0)).1 = -1 → ∃ v, ev (fun k => ar 84 (kc3 k)) (rd tp m 2 0 (rsq r (rex tp 63)).2.1).2.2 [] = [v] ∧ ((hf = 0 ∧ is = 1 ∧ sc' 8017 = 1 ∧ sc' 8014 = v) ∨ (¬ (hf = 0 ∧ is = 1) ∧ sc' 8017 = hf ∧ sc' 8014 = fo)))
theorem m_cb81_71 {K : PK} {D : Nat} {ar : Nat → Int → Int} {oc : Nat} {rl : Nat → Option Nat} {ou : Nat → Int64} {tl : List PO} {q : Nat × Nat} {tp : List Int} {bg : Int} {sc : Nat → Int} (ht : TpOK tp) {m : Nat} (p2 : MC K tp bg 160 81 ar m 2 165 7 [] []) {r : RS} {c0 is : Int} {e4 : Option Value} (hD : 48 ≤ D) (hM : MX tp bg 160 r 0 sc (ar 81)) (hF : r.1 = -1 → 16 * ((tp.length : Int) - r.2.1) ≤ (m : Int) + 12) {hf fo : Int} (e13 : sc 8013 = 121) (e17 : sc 8017 = hf) (hf1 : hf = 0 ∨ hf = 1) (e14 : sc 8014 = fo) (fo1 : -1000000 ≤ fo ∧ fo ≤ 1000000) (hc : c0 = 121) (his : is = 0 ∨ is = 1) : RQ K D 11 false none cd171 71 [some (.ref 80), some (.int (iI c0)), some (.int (iI is)), some (.int (iI 0)), e4] [] (HW sc ar 81 oc rl ou tl, q) (QB_81 tp bg m r hf fo is sc ar oc rl ou tl q) := by
  refine RQ.seg 2 (pc' := 74) (L' := [some (.ref 80), some (.int (iI c0)), some (.int (iI is)), some (.int (iI 0)), e4]) (st' := [.int (iI 63), .ref 80]) (g1 := (HW sc ar 81 oc rl ou tl, q)) rfl ?_
  refine RQ.callQ rfl rfl (CQ.up (m_takes81 (d := 0) (c := 63) (r := r) ht hM (by omega)) (by omega)) (fun rv9 g9 hc9 => ?_)
  obtain ⟨rfl, sc1, rfl, hs1, hM1⟩ := hc9
  obtain ⟨hv_1, hA_1, hW_1, hWr_1, hD_1, hG_1⟩ := id hM1
  have y17 : sc1 8017 = hf := (hs1 8017 rfl).trans e17
  have y13 : sc1 8013 = 121 := (hs1 8013 rfl).trans e13
  have y14 : sc1 8014 = fo := (hs1 8014 rfl).trans e14
  rcases Decidable.em ((rsq r (rex tp 63)).1 = -1) with he1 | he1
  · skip
    rw [if_pos he1]
    refine RQ.seg 2 (pc' := 82) (L' := [some (.ref 80), some (.int (iI c0)), some (.int (iI is)), some (.int (iI 0)), e4]) (st' := [.ref 80]) (g1 := (HW sc1 ar 81 oc rl ou tl, q)) rfl ?_
    obtain ⟨k1, k1d⟩ := hG_1 he1
    obtain ⟨i1, i2, i3⟩ := rsq_i he1
    have hF1 := hF i1
    have hG0 := hM.2.2.2.2.2 i1
    have hA0 := hM.2.1
    have hb4 := (Rg.ex (tp := tp) (a := r.2.1) (c := 63) (by omega) (by omega)).2 i2
    have e21 : (rsq r (rex tp 63)).2.1 = (rex tp 63 r.2.1).2.1 := by rw [rsq_p i1]; rfl
    refine RQ.callQ rfl rfl (CQ.up (p2 (D - 1) 6 0 (rsq r (rex tp 63)).2.1 sc1 oc rl ou tl q (by omega) (by omega) (by omega) ⟨hv_1, hA_1, hW_1.trans he1, by show (-1 : Int) ≤ -1 ∧ (-1 : Int) ≤ 160; omega, hD_1, fun _ => ⟨k1, k1d⟩⟩ (by show 16 * ((tp.length : Int) - (rsq r (rex tp 63)).2.1) + 3 ≤ (m : Int); rw [e21]; omega)) (by omega)) (fun rv9 g9 hc9 => ?_)
    obtain ⟨v5, sc5, rfl, hz5, rfl, hs5, hM5, hev5⟩ := hc9
    replace hz5 := hz5.2
    have hS5 : Same cuF sc sc5 := Same.w rfl (hs1.tr hs5)
    have eF : (rsq (rap (rsq r (rex tp 63)) (-11)) (rd tp m 2 0)) = pre ((rsq r (rex tp 63)).2.2 ++ [-11]) (rd tp m 2 0 (rsq r (rex tp 63)).2.1) := rsq_p (r := rap (rsq r (rex tp 63)) (-11)) he1
    refine RQ.seg 2 (pc' := 134) (L' := [some (.ref 80), some (.int (iI c0)), some (.int (iI is)), some (.int (iI v5)), e4]) (st' := []) (g1 := (HW sc5 ar 81 oc rl ou tl, q)) rfl ?_
    have x17 : sc5 8017 = hf := (hs5 8017 rfl).trans y17
    have x14 : sc5 8014 = fo := (hs5 8014 rfl).trans y14
    have hM6 : MX tp bg 160 (rsq (rap (rsq r (rex tp 63)) (-11)) (rd tp m 2 0)) 0 sc5 (ar 81) := by rw [eF]; exact hM5
    have hW5 : sc5 8011 = (rd tp m 2 0 (rsq r (rex tp 63)).2.1).1 := hM5.2.2.1
    refine m_cf81 (v := v5) ((hs5 8013 rfl).trans y13) x17 hf1 x14 fo1 hc his (by rw [hW5]; exact hM5.2.2.2.1) (fun hn => ?_) (fun hn => ?_)
    · refine ⟨rfl, sc5, rfl, hS5, hM6, by omega, by omega, fun z => ?_⟩
      rw [eF] at z
      have z5 : (rd tp m 2 0 (rsq r (rex tp 63)).2.1).1 = -1 := z
      exact ⟨v5, hev5 z5 [], Or.inr ⟨fun h => hn ⟨hW5.trans z5, h⟩, x17, x14⟩⟩
    · refine ⟨rfl, _, rfl, hS5.tr (by repeat (first | exact Same.rf | refine Same.us rfl ?_)), MX.us hM6 (fun k hk => by rcases hk with rfl | rfl | rfl | rfl | rfl <;> rfl), Or.inr rfl, hz5, fun z => ?_⟩
      rw [eF] at z
      have z5 : (rd tp m 2 0 (rsq r (rex tp 63)).2.1).1 = -1 := z
      exact ⟨v5, hev5 z5 [], Or.inl ⟨hn.2.1, hn.2.2, rfl, rfl⟩⟩
  · skip
    rw [if_neg he1]
    refine RQ.seg 1 (pc' := 80) (L' := [some (.ref 80), some (.int (iI c0)), some (.int (iI is)), some (.int (iI 0)), e4]) (st' := []) (g1 := (HW sc1 ar 81 oc rl ou tl, q)) rfl ?_
    refine RQ.ret rfl rfl ?_
    have eF : (rsq (rap (rsq r (rex tp 63)) (-11)) (rd tp m 2 0)) = rap (rsq r (rex tp 63)) (-11) := rsq_b (r := rap (rsq r (rex tp 63)) (-11)) he1
    exact ⟨rfl, sc1, rfl, Same.w rfl hs1, by rw [eF]; exact hM1, by omega, by omega, fun z => absurd (by rw [eF] at z; exact z) he1⟩
theorem m_cb81_119 {K : PK} {D : Nat} {ar : Nat → Int → Int} {oc : Nat} {rl : Nat → Option Nat} {ou : Nat → Int64} {tl : List PO} {q : Nat × Nat} {tp : List Int} {bg : Int} {sc : Nat → Int} (ht : TpOK tp) {m : Nat} (p2 : MC K tp bg 160 81 ar m 2 165 7 [] []) {r : RS} {c0 is v : Int} {e4 : Option Value} (hD : 48 ≤ D) (hM : MX tp bg 160 r 0 sc (ar 81)) (hF : r.1 = -1 → 16 * ((tp.length : Int) - r.2.1) ≤ (m : Int) + 12) {hf fo : Int} (e13 : sc 8013 = 121) (e17 : sc 8017 = hf) (hf1 : hf = 0 ∨ hf = 1) (e14 : sc 8014 = fo) (fo1 : -1000000 ≤ fo ∧ fo ≤ 1000000) (hc : c0 = 121) (his : is = 0 ∨ is = 1) : RQ K D 11 false none cd171 119 [some (.ref 80), some (.int (iI c0)), some (.int (iI is)), some (.int (iI v)), e4] [] (HW sc ar 81 oc rl ou tl, q) (QB_81 tp bg m r hf fo is sc ar oc rl ou tl q) := by
  refine RQ.seg 2 (pc' := 122) (L' := [some (.ref 80), some (.int (iI c0)), some (.int (iI is)), some (.int (iI v)), e4]) (st' := [.int (iI 63), .ref 80]) (g1 := (HW sc ar 81 oc rl ou tl, q)) rfl ?_
  refine RQ.callQ rfl rfl (CQ.up (m_takes81 (d := 0) (c := 63) (r := r) ht hM (by omega)) (by omega)) (fun rv9 g9 hc9 => ?_)
  obtain ⟨rfl, sc1, rfl, hs1, hM1⟩ := hc9
  obtain ⟨hv_1, hA_1, hW_1, hWr_1, hD_1, hG_1⟩ := id hM1
  have y17 : sc1 8017 = hf := (hs1 8017 rfl).trans e17
  have y13 : sc1 8013 = 121 := (hs1 8013 rfl).trans e13
  have y14 : sc1 8014 = fo := (hs1 8014 rfl).trans e14
  rcases Decidable.em ((rsq r (rex tp 63)).1 = -1) with he1 | he1
  · skip
    rw [if_pos he1]
    refine RQ.seg 2 (pc' := 130) (L' := [some (.ref 80), some (.int (iI c0)), some (.int (iI is)), some (.int (iI v)), e4]) (st' := [.ref 80]) (g1 := (HW sc1 ar 81 oc rl ou tl, q)) rfl ?_
    obtain ⟨k1, k1d⟩ := hG_1 he1
    obtain ⟨i1, i2, i3⟩ := rsq_i he1
    have hF1 := hF i1
    have hG0 := hM.2.2.2.2.2 i1
    have hA0 := hM.2.1
    have hb4 := (Rg.ex (tp := tp) (a := r.2.1) (c := 63) (by omega) (by omega)).2 i2
    have e21 : (rsq r (rex tp 63)).2.1 = (rex tp 63 r.2.1).2.1 := by rw [rsq_p i1]; rfl
    refine RQ.callQ rfl rfl (CQ.up (p2 (D - 1) 6 0 (rsq r (rex tp 63)).2.1 sc1 oc rl ou tl q (by omega) (by omega) (by omega) ⟨hv_1, hA_1, hW_1.trans he1, by show (-1 : Int) ≤ -1 ∧ (-1 : Int) ≤ 160; omega, hD_1, fun _ => ⟨k1, k1d⟩⟩ (by show 16 * ((tp.length : Int) - (rsq r (rex tp 63)).2.1) + 3 ≤ (m : Int); rw [e21]; omega)) (by omega)) (fun rv9 g9 hc9 => ?_)
    obtain ⟨v5, sc5, rfl, hz5, rfl, hs5, hM5, hev5⟩ := hc9
    replace hz5 := hz5.2
    have hS5 : Same cuF sc sc5 := Same.w rfl (hs1.tr hs5)
    have eF : (rsq (rap (rsq r (rex tp 63)) (-11)) (rd tp m 2 0)) = pre ((rsq r (rex tp 63)).2.2 ++ [-11]) (rd tp m 2 0 (rsq r (rex tp 63)).2.1) := rsq_p (r := rap (rsq r (rex tp 63)) (-11)) he1
    refine RQ.seg 1 (pc' := 134) (L' := [some (.ref 80), some (.int (iI c0)), some (.int (iI is)), some (.int (iI v5)), e4]) (st' := []) (g1 := (HW sc5 ar 81 oc rl ou tl, q)) rfl ?_
    have x17 : sc5 8017 = hf := (hs5 8017 rfl).trans y17
    have x14 : sc5 8014 = fo := (hs5 8014 rfl).trans y14
    have hM6 : MX tp bg 160 (rsq (rap (rsq r (rex tp 63)) (-11)) (rd tp m 2 0)) 0 sc5 (ar 81) := by rw [eF]; exact hM5
    have hW5 : sc5 8011 = (rd tp m 2 0 (rsq r (rex tp 63)).2.1).1 := hM5.2.2.1
    refine m_cf81 (v := v5) ((hs5 8013 rfl).trans y13) x17 hf1 x14 fo1 hc his (by rw [hW5]; exact hM5.2.2.2.1) (fun hn => ?_) (fun hn => ?_)
    · refine ⟨rfl, sc5, rfl, hS5, hM6, by omega, by omega, fun z => ?_⟩
      rw [eF] at z
      have z5 : (rd tp m 2 0 (rsq r (rex tp 63)).2.1).1 = -1 := z
      exact ⟨v5, hev5 z5 [], Or.inr ⟨fun h => hn ⟨hW5.trans z5, h⟩, x17, x14⟩⟩
    · refine ⟨rfl, _, rfl, hS5.tr (by repeat (first | exact Same.rf | refine Same.us rfl ?_)), MX.us hM6 (fun k hk => by rcases hk with rfl | rfl | rfl | rfl | rfl <;> rfl), Or.inr rfl, hz5, fun z => ?_⟩
      rw [eF] at z
      have z5 : (rd tp m 2 0 (rsq r (rex tp 63)).2.1).1 = -1 := z
      exact ⟨v5, hev5 z5 [], Or.inl ⟨hn.2.1, hn.2.2, rfl, rfl⟩⟩
  · skip
    rw [if_neg he1]
    refine RQ.seg 1 (pc' := 128) (L' := [some (.ref 80), some (.int (iI c0)), some (.int (iI is)), some (.int (iI v)), e4]) (st' := []) (g1 := (HW sc1 ar 81 oc rl ou tl, q)) rfl ?_
    refine RQ.ret rfl rfl ?_
    have eF : (rsq (rap (rsq r (rex tp 63)) (-11)) (rd tp m 2 0)) = rap (rsq r (rex tp 63)) (-11) := rsq_b (r := rap (rsq r (rex tp 63)) (-11)) he1
    exact ⟨rfl, sc1, rfl, Same.w rfl hs1, by rw [eF]; exact hM1, by omega, by omega, fun z => absurd (by rw [eF] at z; exact z) he1⟩
def QC_81 (tp : List Int) (bg : Int) (m : Nat) (b hf fo : Int) (sc : Nat → Int) (ar : Nat → Int → Int) (oc : Nat) (rl : Nat → Option Nat) (ou : Nat → Int64) (tl : List PO) (q : Nat × Nat) : Option Value → PG → Prop := fun v g' => v = none ∧ ∃ sc', g' = (HW sc' ar 81 oc rl ou tl, q) ∧ Same cuF sc sc' ∧ MX tp bg 160 (rBody tp (rd tp m) b) 0 sc' (ar 81) ∧ (sc' 8017 = 0 ∨ sc' 8017 = 1) ∧ (-1000000 ≤ sc' 8014 ∧ sc' 8014 ≤ 1000000) ∧ ((rBody tp (rd tp m) b).1 = -1 → FF (fun k => ar 84 (kc3 k)) ((rBody tp (rd tp m) b).2.2 ++ [-12]) hf fo (sc' 8017) (sc' 8014))
theorem m_bd81 {K : PK} {D : Nat} {ar : Nat → Int → Int} {oc : Nat} {rl : Nat → Option Nat} {ou : Nat → Int64} {tl : List PO} {q : Nat × Nat} {tp : List Int} {bg : Int} {sc : Nat → Int} (ht : TpOK tp) {m : Nat} (hP : MP_81 K tp bg ar m) {b c0 : Int} (hD : 48 ≤ D) (hM : MX tp bg 160 (-1, b, []) 0 sc (ar 81)) (hF : 16 * ((tp.length : Int) - b) + 6 ≤ (m : Int)) {hf fo : Int} (e13 : sc 8013 = 121) (e17 : sc 8017 = hf) (hf1 : hf = 0 ∨ hf = 1) (e14 : sc 8014 = fo) (fo1 : -1000000 ≤ fo ∧ fo ≤ 1000000) (hc : c0 = 121) : RQ K D 11 false none cd171 44 [some (.ref 80), some (.int (iI c0)), some (.int (iI 1)), some (.int (iI 0)), none] [] (HW sc ar 81 oc rl ou tl, q) (QC_81 tp bg m b hf fo sc ar oc rl ou tl q) := by
  obtain ⟨p0, p1, p2, p3, p4, p5, l6, l7, l8, l9, l11, p10, p12⟩ := hP
  have ht1 := ht.1
  obtain ⟨hv, hA, hW, hWr, hDp, hG⟩ := id hM
  obtain ⟨g1, g2⟩ := hG rfl
  replace g1 : sc 8010 = b := g1
  replace hW : sc 8011 = -1 := hW
  have hsk := sk_r (tp := tp) (p := b) (by omega)
  have hlk : 0 ≤ lk tp b ∧ lk tp b ≤ 255 := tch_r ht (sk tp b)
  have hlm := lkm_r hlk
  refine RQ.seg 1 (pc' := 45) (L' := [some (.ref 80), some (.int (iI c0)), some (.int (iI 1)), some (.int (iI 0)), none]) (st' := [.ref 80]) (g1 := (HW sc ar 81 oc rl ou tl, q)) rfl ?_
  refine RQ.call rfl rfl (CallR.up (d := 1) (m_look81 (d := 0) (sc := sc) (ar := ar) (a := b) ht hv g1 (by omega)) (by omega)) ?_
  refine RQ.seg 3 (pc' := 54) (L' := [some (.ref 80), some (.int (iI c0)), some (.int (iI 1)), some (.int (iI 0)), some (.int (iI (lkm (lk tp b))))]) (st' := [.int (iI 33), .int (iI (lkm (lk tp b)))]) (g1 := (HW (usc sc 8010 (sk tp b)) ar 81 oc rl ou tl, q)) rfl ?_
  refine RQ.if2 (a := (lkm (lk tp b))) (b := 33) rfl rfl rfl rfl (by omega) (by omega) (fun (h1 : lkm (lk tp b) = 33) => ?_) (fun (h1 : ¬ lkm (lk tp b) = 33) => ?_)
  · skip
    refine RQ.seg 3 (pc' := 67) (L' := [some (.ref 80), some (.int (iI c0)), some (.int (iI 1)), some (.int (iI 0)), some (.int (iI (lkm (lk tp b))))]) (st' := [.int (iI 0), .int (iI 0), .ref 80]) (g1 := (HW (usc sc 8010 (sk tp b)) ar 81 oc rl ou tl, q)) rfl ?_
    refine RQ.callQ rfl rfl (CQ.up (p5 (D - 1) 6 0 (sk tp b) (usc sc 8010 (sk tp b)) oc rl ou tl q (by omega) (by omega) (by omega) ⟨hv, by show 0 ≤ sk tp b ∧ sk tp b ≤ _; omega, hW, hWr, hDp, fun _ => ⟨rfl, g2⟩⟩ (by show 16 * ((tp.length : Int) - sk tp b) + 6 ≤ (m : Int); omega)) (by omega)) (fun rv9 g9 hc9 => ?_)
    obtain ⟨t3, sc3, rfl, hz3, rfl, hs3, hM3, hev3⟩ := hc9
    rw [rd_sk] at hM3 hev3
    have h01 : t3 = 0 ∨ t3 = 1 := by have := hz3.1 rfl; omega
    have hU3 : Same muF sc sc3 := Same.tr (by repeat (first | exact Same.rf | refine Same.us rfl ?_)) hs3
    refine RQ.seg 1 (pc' := 71) (L' := [some (.ref 80), some (.int (iI c0)), some (.int (iI t3)), some (.int (iI 0)), some (.int (iI (lkm (lk tp b))))]) (st' := []) (g1 := (HW sc3 ar 81 oc rl ou tl, q)) rfl ?_
    have eX : (rBody tp (rd tp m) b) = (rThen tp (rd tp m) 5 b) := if_pos (by omega)
    have hRg := ((rd_ok (tp := tp) m).at 5 0 (a := b) (by omega)).2
    refine RQ.im (m_cb81_71 ht p2 (r := rd tp m 5 0 b) hD hM3 (fun z => by have z2 : b + 1 ≤ (rd tp m 5 0 b).2.1 ∧ _ := hRg z; omega) ((hU3 8013 rfl).trans e13) ((hU3 8017 rfl).trans e17) hf1 ((hU3 8014 rfl).trans e14) fo1 hc h01) (fun vv gg hq => ?_)
    obtain ⟨e0, sc9, e9, hs9, hM9, r17, r14, hv9⟩ := hq
    refine ⟨e0, sc9, e9, Same.tr (Same.w rfl hU3) hs9, by rw [eX]; exact hM9, r17, r14, fun z => ?_⟩
    rw [eX] at z ⊢
    replace z : (rThen tp (rd tp m) 5 b).1 = -1 := z
    obtain ⟨v, hv1, hv2⟩ := hv9 z
    obtain ⟨q1, q2, q3, q4⟩ := rThen_c z
    have hW9 : ∀ c, wo (fun k => ar 84 (kc3 k)) (((rThen tp (rd tp m) 5 b).2.2 ++ [-12]) ++ c) false [] = if t3 = 0 then wo (fun k => ar 84 (kc3 k)) c false [] else v := w_5 (rd_ok m) (rd_ty m) (by omega) z (hev3 q1 []) hv1
    exact FF.of hf1 h01 hv2 hW9
  · skip
    refine RQ.seg 2 (pc' := 61) (L' := [some (.ref 80), some (.int (iI c0)), some (.int (iI 1)), some (.int (iI 0)), some (.int (iI (lkm (lk tp b))))]) (st' := [.int (iI 40), .int (iI (lkm (lk tp b)))]) (g1 := (HW (usc sc 8010 (sk tp b)) ar 81 oc rl ou tl, q)) rfl ?_
    refine RQ.if2 (a := (lkm (lk tp b))) (b := 40) rfl rfl rfl rfl (by omega) (by omega) (fun (h2 : lkm (lk tp b) ≠ 40) => ?_) (fun (h2 : ¬ lkm (lk tp b) ≠ 40) => ?_)
    · skip
      refine RQ.seg 1 (pc' := 90) (L' := [some (.ref 80), some (.int (iI c0)), some (.int (iI 1)), some (.int (iI 0)), some (.int (iI (lkm (lk tp b))))]) (st' := [.ref 80]) (g1 := (HW (usc sc 8010 (sk tp b)) ar 81 oc rl ou tl, q)) rfl ?_
      refine RQ.callQ rfl rfl (CQ.up (p2 (D - 1) 6 0 (sk tp b) (usc sc 8010 (sk tp b)) oc rl ou tl q (by omega) (by omega) (by omega) ⟨hv, by show 0 ≤ sk tp b ∧ sk tp b ≤ _; omega, hW, hWr, hDp, fun _ => ⟨rfl, g2⟩⟩ (by show 16 * ((tp.length : Int) - sk tp b) + 3 ≤ (m : Int); omega)) (by omega)) (fun rv9 g9 hc9 => ?_)
      obtain ⟨v2, sc2, rfl, hz2, rfl, hs2, hM2, hev2⟩ := hc9
      replace hz2 := hz2.2
      rw [rd_sk] at hM2 hev2
      obtain ⟨hv_2, hA_2, hW_2, hWr_2, hD_2, hG_2⟩ := id hM2
      have hU2 : Same muF sc sc2 := Same.tr (by repeat (first | exact Same.rf | refine Same.us rfl ?_)) hs2
      have eB : rBody tp (rd tp m) b = rsq (rd tp m 2 0 b) (fun b => if pcm (lk tp b) = -1 then (-1, sk tp b, []) else rThen tp (rd tp m) 12 b) := if_neg (by omega)
      rcases Decidable.em ((rd tp m 2 0 b).1 = -1) with he2 | he2
      · skip
        obtain ⟨k2, k2d⟩ := hG_2 he2
        have hw2 : sc2 8011 = -1 := hW_2.trans he2
        have hb2 : b + 1 ≤ (rd tp m 2 0 b).2.1 ∧ _ := ((rd_ok (tp := tp) m).at 2 0 (a := b) (by omega)).2 he2
        rw [rsq_p he2] at eB
        have hskc := sk_r (tp := tp) (p := (rd tp m 2 0 b).2.1) (by omega)
        have hlkc : 0 ≤ lk tp (rd tp m 2 0 b).2.1 ∧ lk tp (rd tp m 2 0 b).2.1 ≤ 255 := tch_r ht (sk tp (rd tp m 2 0 b).2.1)
        have hlmc := lkm_r hlkc
        have hty := rd_ty (tp := tp) m 2 0 b (by omega) (by omega) (by omega) (by omega) (by omega) he2 [] (by show ((0 : Nat) : Int) + 3 + 2 * (6 - 0) ≤ 64; omega)
        refine RQ.seg 4 (pc' := 99) (L' := [some (.ref 80), some (.int (iI c0)), some (.int (iI 1)), some (.int (iI v2)), some (.int (iI (lkm (lk tp b))))]) (st' := [.int (iI (-1)), .int (iI (sc2 8011))]) (g1 := (HW sc2 ar 81 oc rl ou tl, q)) rfl ?_
        refine RQ.if2 (a := (sc2 8011)) (b := (-1)) rfl rfl rfl rfl (by omega) (by omega) (fun (q : sc2 8011 ≠ (-1)) => absurd q (show ¬ sc2 8011 ≠ (-1) from by omega)) (fun _ => ?_)
        refine RQ.seg 1 (pc' := 103) (L' := [some (.ref 80), some (.int (iI c0)), some (.int (iI 1)), some (.int (iI v2)), some (.int (iI (lkm (lk tp b))))]) (st' := [.ref 80]) (g1 := (HW sc2 ar 81 oc rl ou tl, q)) rfl ?_
        refine RQ.call rfl rfl (CallR.up (d := 1) (m_look81 (d := 0) (sc := sc2) (ar := ar) (a := (rd tp m 2 0 b).2.1) ht hv_2 k2 (by omega)) (by omega)) ?_
        rcases Decidable.em (pcm (lk tp (rd tp m 2 0 b).2.1) ≠ -1) with hpa | hpa
        · skip
          rw [if_neg hpa] at eB
          have hpv := pcm_v hpa
          refine RQ.call rfl rfl (CallR.up (d := 1) (m_isSign_t (d := 0) (c := lkm (lk tp ((rd tp m 2 0 b).2.1))) (by omega) (by rw [pcm_m]; exact hpa)) (by omega)) ?_
          refine RQ.seg 4 (pc' := 115) (L' := [some (.ref 80), some (.int (iI c0)), some (.int (iI 1)), some (.int (iI v2)), some (.int (iI (lkm (lk tp b))))]) (st' := [.int (iI v2), .int (iI 1), .ref 80]) (g1 := (HW (usc sc2 8010 (sk tp ((rd tp m 2 0 b).2.1))) ar 81 oc rl ou tl, q)) rfl ?_
          refine RQ.callQ rfl rfl (CQ.up (p12 v2 hz2 (D - 1) 6 0 (sk tp (rd tp m 2 0 b).2.1) (usc sc2 8010 (sk tp ((rd tp m 2 0 b).2.1))) oc rl ou tl q (by omega) (by omega) (by omega) ⟨hv_2, by show 0 ≤ sk tp (rd tp m 2 0 b).2.1 ∧ sk tp (rd tp m 2 0 b).2.1 ≤ _; omega, hw2, by show (-1 : Int) ≤ -1 ∧ (-1 : Int) ≤ 160; omega, hD_2, fun _ => ⟨rfl, k2d⟩⟩ (by show 16 * ((tp.length : Int) - sk tp (rd tp m 2 0 b).2.1) + 3 ≤ (m : Int); omega)) (by omega)) (fun rv9 g9 hc9 => ?_)
          obtain ⟨t3, sc3, rfl, hz3, rfl, hs3, hM3, hev3⟩ := hc9
          rw [rd_sk] at hM3 hev3
          have h01 : t3 = 0 ∨ t3 = 1 := by have := hz3.1 rfl; omega
          have hU3 : Same muF sc sc3 := hU2.tr (Same.tr (by repeat (first | exact Same.rf | refine Same.us rfl ?_)) hs3)
          refine RQ.seg 1 (pc' := 119) (L' := [some (.ref 80), some (.int (iI c0)), some (.int (iI t3)), some (.int (iI v2)), some (.int (iI (lkm (lk tp b))))]) (st' := []) (g1 := (HW sc3 ar 81 oc rl ou tl, q)) rfl ?_
          have eX : (rBody tp (rd tp m) b) = pre (rd tp m 2 0 b).2.2 (rThen tp (rd tp m) 12 (rd tp m 2 0 b).2.1) := eB
          have hRg := ((rd_ok (tp := tp) m).at 12 0 (a := (rd tp m 2 0 b).2.1) (by omega)).2
          refine RQ.im (m_cb81_119 ht p2 (r := rd tp m 12 0 (rd tp m 2 0 b).2.1) hD hM3 (fun z => by have z2 : (rd tp m 2 0 b).2.1 + 1 ≤ (rd tp m 12 0 (rd tp m 2 0 b).2.1).2.1 ∧ _ := hRg z; omega) ((hU3 8013 rfl).trans e13) ((hU3 8017 rfl).trans e17) hf1 ((hU3 8014 rfl).trans e14) fo1 hc h01) (fun vv gg hq => ?_)
          obtain ⟨e0, sc9, e9, hs9, hM9, r17, r14, hv9⟩ := hq
          refine ⟨e0, sc9, e9, Same.tr (Same.w rfl hU3) hs9, by rw [eX]; exact hM9, r17, r14, fun z => ?_⟩
          rw [eX] at z ⊢
          replace z : (rThen tp (rd tp m) 12 (rd tp m 2 0 b).2.1).1 = -1 := z
          obtain ⟨v, hv1, hv2⟩ := hv9 z
          obtain ⟨q1, q2, q3, q4⟩ := rThen_c z
          have hW9 : ∀ c, wo (fun k => ar 84 (kc3 k)) ((((rd tp m 2 0 b).2.2 ++ (rThen tp (rd tp m) 12 (rd tp m 2 0 b).2.1).2.2) ++ [-12]) ++ c) false [] = if t3 = 0 then wo (fun k => ar 84 (kc3 k)) c false [] else v := w_12 (rd_ok m) (rd_ty m) (by omega) z hty (hev2 he2 []) (hev3 q1 []) hv1
          exact FF.of hf1 h01 hv2 hW9
        · skip
          rw [if_pos (by omega)] at eB
          refine RQ.call rfl rfl (CallR.up (d := 1) (m_isSign_f (d := 0) (c := lkm (lk tp ((rd tp m 2 0 b).2.1))) (by omega) (by rw [pcm_m]; exact hpa)) (by omega)) ?_
          refine RQ.seg 1 (pc' := 134) (L' := [some (.ref 80), some (.int (iI c0)), some (.int (iI 1)), some (.int (iI v2)), some (.int (iI (lkm (lk tp b))))]) (st' := []) (g1 := (HW (usc sc2 8010 (sk tp ((rd tp m 2 0 b).2.1))) ar 81 oc rl ou tl, q)) rfl ?_
          have hSx : Same cuF sc (usc sc2 8010 (sk tp ((rd tp m 2 0 b).2.1))) := Same.w rfl (Same.tr hU2 (show Same muF sc2 (usc sc2 8010 (sk tp ((rd tp m 2 0 b).2.1))) from (by repeat (first | exact Same.rf | refine Same.us rfl ?_))))
          have x17 : (usc sc2 8010 (sk tp ((rd tp m 2 0 b).2.1))) 8017 = hf := (hU2 8017 rfl).trans e17
          have x14 : (usc sc2 8010 (sk tp ((rd tp m 2 0 b).2.1))) 8014 = fo := (hU2 8014 rfl).trans e14
          have x13 : (usc sc2 8010 (sk tp ((rd tp m 2 0 b).2.1))) 8013 = 121 := (hU2 8013 rfl).trans e13
          have hMx : MX tp bg 160 (rBody tp (rd tp m) b) 0 (usc sc2 8010 (sk tp ((rd tp m 2 0 b).2.1))) (ar 81) := by rw [eB]; exact ⟨hv_2, by show 0 ≤ sk tp (rd tp m 2 0 b).2.1 ∧ sk tp (rd tp m 2 0 b).2.1 ≤ _; omega, hw2, by show (-1 : Int) ≤ -1 ∧ (-1 : Int) ≤ 160; omega, hD_2, fun _ => ⟨rfl, k2d⟩⟩
          have hW9 : ∀ c, wo (fun k => ar 84 (kc3 k)) (((rBody tp (rd tp m) b).2.2 ++ [-12]) ++ c) false [] = v2 := fun c => by rw [eB]; show wo _ ((((rd tp m 2 0 b).2.2 ++ []) ++ [-12]) ++ c) false [] = v2; rw [List.append_nil]; exact w_0 hty (hev2 he2 []) c
          refine m_cf81 (v := v2) x13 x17 hf1 x14 fo1 hc (Or.inr rfl) (by show -1 ≤ sc2 8011 ∧ sc2 8011 ≤ 160; omega) (fun hn => ?_) (fun hn => ?_)
          · refine ⟨rfl, _, rfl, hSx, hMx, by omega, by omega, fun z => ?_⟩
            rw [x17, x14]; exact FF.h1 (fun z0 => hn ⟨hw2, z0, rfl⟩) hf1
          · exact ⟨rfl, _, rfl, hSx.tr (by repeat (first | exact Same.rf | refine Same.us rfl ?_)), MX.us hMx (fun k hk => by rcases hk with rfl | rfl | rfl | rfl | rfl <;> rfl), Or.inr rfl, hz2, fun z => FF.t1 hn.2.1 hW9⟩
      · skip
        rw [rsq_b he2] at eB
        have hw2 : ¬ sc2 8011 = -1 := by omega
        refine RQ.seg 4 (pc' := 99) (L' := [some (.ref 80), some (.int (iI c0)), some (.int (iI 1)), some (.int (iI v2)), some (.int (iI (lkm (lk tp b))))]) (st' := [.int (iI (-1)), .int (iI (sc2 8011))]) (g1 := (HW sc2 ar 81 oc rl ou tl, q)) rfl ?_
        refine RQ.if2 (a := (sc2 8011)) (b := (-1)) rfl rfl rfl rfl (by omega) (by omega) (fun _ => ?_) (fun (q : ¬ sc2 8011 ≠ (-1)) => absurd (show sc2 8011 ≠ (-1) from by omega) q)
        have hSx : Same cuF sc (sc2) := Same.w rfl hU2
        refine m_cf81 (v := v2) ((hU2 8013 rfl).trans e13) ((hU2 8017 rfl).trans e17) hf1 ((hU2 8014 rfl).trans e14) fo1 hc (Or.inr rfl) (by omega) (fun hn => ?_) (fun hn => absurd hn.1 hw2)
        exact ⟨rfl, sc2, rfl, hSx, by rw [eB]; exact hM2, by have := hU2 8017 rfl; omega, by have := hU2 8014 rfl; omega, fun z => absurd (by rw [eB] at z; exact z) he2⟩
    · skip
      refine RQ.seg 3 (pc' := 67) (L' := [some (.ref 80), some (.int (iI c0)), some (.int (iI 1)), some (.int (iI 0)), some (.int (iI (lkm (lk tp b))))]) (st' := [.int (iI 0), .int (iI 0), .ref 80]) (g1 := (HW (usc sc 8010 (sk tp b)) ar 81 oc rl ou tl, q)) rfl ?_
      refine RQ.callQ rfl rfl (CQ.up (p5 (D - 1) 6 0 (sk tp b) (usc sc 8010 (sk tp b)) oc rl ou tl q (by omega) (by omega) (by omega) ⟨hv, by show 0 ≤ sk tp b ∧ sk tp b ≤ _; omega, hW, hWr, hDp, fun _ => ⟨rfl, g2⟩⟩ (by show 16 * ((tp.length : Int) - sk tp b) + 6 ≤ (m : Int); omega)) (by omega)) (fun rv9 g9 hc9 => ?_)
      obtain ⟨t3, sc3, rfl, hz3, rfl, hs3, hM3, hev3⟩ := hc9
      rw [rd_sk] at hM3 hev3
      have h01 : t3 = 0 ∨ t3 = 1 := by have := hz3.1 rfl; omega
      have hU3 : Same muF sc sc3 := Same.tr (by repeat (first | exact Same.rf | refine Same.us rfl ?_)) hs3
      refine RQ.seg 1 (pc' := 71) (L' := [some (.ref 80), some (.int (iI c0)), some (.int (iI t3)), some (.int (iI 0)), some (.int (iI (lkm (lk tp b))))]) (st' := []) (g1 := (HW sc3 ar 81 oc rl ou tl, q)) rfl ?_
      have eX : (rBody tp (rd tp m) b) = (rThen tp (rd tp m) 5 b) := if_pos (by omega)
      have hRg := ((rd_ok (tp := tp) m).at 5 0 (a := b) (by omega)).2
      refine RQ.im (m_cb81_71 ht p2 (r := rd tp m 5 0 b) hD hM3 (fun z => by have z2 : b + 1 ≤ (rd tp m 5 0 b).2.1 ∧ _ := hRg z; omega) ((hU3 8013 rfl).trans e13) ((hU3 8017 rfl).trans e17) hf1 ((hU3 8014 rfl).trans e14) fo1 hc h01) (fun vv gg hq => ?_)
      obtain ⟨e0, sc9, e9, hs9, hM9, r17, r14, hv9⟩ := hq
      refine ⟨e0, sc9, e9, Same.tr (Same.w rfl hU3) hs9, by rw [eX]; exact hM9, r17, r14, fun z => ?_⟩
      rw [eX] at z ⊢
      replace z : (rThen tp (rd tp m) 5 b).1 = -1 := z
      obtain ⟨v, hv1, hv2⟩ := hv9 z
      obtain ⟨q1, q2, q3, q4⟩ := rThen_c z
      have hW9 : ∀ c, wo (fun k => ar 84 (kc3 k)) (((rThen tp (rd tp m) 5 b).2.2 ++ [-12]) ++ c) false [] = if t3 = 0 then wo (fun k => ar 84 (kc3 k)) c false [] else v := w_5 (rd_ok m) (rd_ty m) (by omega) z (hev3 q1 []) hv1
      exact FF.of hf1 h01 hv2 hW9
def QK_81 (tp : List Int) (bg : Int) (m : Nat) (a hf fo : Int) (sc : Nat → Int) (ar : Nat → Int → Int) (oc : Nat) (rl : Nat → Option Nat) (ou : Nat → Int64) (tl : List PO) (q : Nat × Nat) : Option Value → PG → Prop := fun v g' => v = none ∧ ∃ sc', g' = (HW sc' ar 81 oc rl ou tl, q) ∧ Same cuF sc sc' ∧ MX tp bg 160 (rClause tp (rd tp m) a) 0 sc' (ar 81) ∧ (sc' 8017 = 0 ∨ sc' 8017 = 1) ∧ (-1000000 ≤ sc' 8014 ∧ sc' 8014 ≤ 1000000) ∧ ((rClause tp (rd tp m) a).1 = -1 → FF (fun k => ar 84 (kc3 k)) (rClause tp (rd tp m) a).2.2 hf fo (sc' 8017) (sc' 8014))
theorem m_clause81 {K : PK} {D : Nat} {ar : Nat → Int → Int} {oc : Nat} {rl : Nat → Option Nat} {ou : Nat → Int64} {tl : List PO} {q : Nat × Nat} {tp : List Int} {bg : Int} {sc : Nat → Int} (ht : TpOK tp) {m : Nat} (hP : MP_81 K tp bg ar m) {a : Int} (hD : 48 ≤ D) (hM : MX tp bg 160 (-1, a, []) 0 sc (ar 81)) (hF : 16 * ((tp.length : Int) - a) ≤ (m : Int)) {hf fo : Int} (e13 : sc 8013 = 121) (e17 : sc 8017 = hf) (hf1 : hf = 0 ∨ hf = 1) (e14 : sc 8014 = fo) (fo1 : -1000000 ≤ fo ∧ fo ≤ 1000000) : CQ K (D + 1) 171 [.ref 80] (HW sc ar 81 oc rl ou tl, q) (QK_81 tp bg m a hf fo sc ar oc rl ou tl q) := by
  have ht1 := ht.1
  obtain ⟨hv, hA, hW, hWr, hDp, hG⟩ := id hM
  obtain ⟨g1, g2⟩ := hG rfl
  replace g1 : sc 8010 = a := g1
  replace hW : sc 8011 = -1 := hW
  have hsk := sk_r (tp := tp) (p := a) (by omega)
  have hlk : 0 ≤ lk tp a ∧ lk tp a ≤ 255 := tch_r ht (sk tp a)
  have hlm := lkm_r hlk
  refine CQ.of (own := 11) (n := 5) (ini := false) (rt := none) (cd := cd171) (by decide +kernel) rfl (by decide +kernel) rfl (Nat.le_of_ble_eq_true rfl) ?_
  refine RQ.seg 1 (pc' := 1) (L' := [some (.ref 80), none, none, none, none]) (st' := [.ref 80]) (g1 := (HW sc ar 81 oc rl ou tl, q)) rfl ?_
  refine RQ.call rfl rfl (CallR.up (d := 1) (m_look81 (d := 0) (sc := sc) (ar := ar) (a := a) ht hv g1 (by omega)) (by omega)) ?_
  refine RQ.seg 3 (pc' := 8) (L' := [some (.ref 80), some (.int (iI (lkm (lk tp a)))), none, none, none]) (st' := [.int (iI (lkm (lk tp a))), .retAddr 20]) (g1 := (HW (usc sc 8010 (sk tp a)) ar 81 oc rl ou tl, q)) rfl ?_
  rcases Decidable.em (lk tp a = 121) with h121 | h121
  · skip
    have hps := lk_in (tp := tp) (a := a) (by omega) (by omega)
    have hC : lkm (lk tp a) = 121 := by omega
    refine RQ.call rfl rfl (CallR.up (d := 5) (m_among_yt (d := 0) (c := lkm (lk tp a)) (by omega) (by omega)) (by omega)) ?_
    refine RQ.seg 6 (pc' := 27) (L' := [some (.ref 80), some (.int (iI (lkm (lk tp a)))), none, none, none]) (st' := [.int ((iI (sk tp a)) + (iI 1)), .ref 80]) (g1 := (HW (usc sc 8010 (sk tp a)) ar 81 oc rl ou tl, q)) rfl ?_
    refine RQ.to (L' := [some (.ref 80), some (.int (iI (lkm (lk tp a)))), none, none, none]) (st' := [.int (iI (sk tp a + 1)), .ref 80]) rfl (by simp only [iI_add, iI_sub, iI_mul, iI_neg]) ?_
    refine RQ.seg 3 (pc' := 33) (L' := [some (.ref 80), some (.int (iI (lkm (lk tp a)))), none, none, none]) (st' := [.int (iI 58), .ref 80]) (g1 := (HW (usc sc 8010 (sk tp a + 1)) ar 81 oc rl ou tl, q)) rfl ?_
    refine RQ.callQ rfl rfl (CQ.up (m_takes81 (d := 0) (c := 58) (r := ((-1, sk tp a + 1, []) : RS)) ht ⟨hv, by show 0 ≤ sk tp a + 1 ∧ sk tp a + 1 ≤ _; omega, hW, hWr, hDp, fun _ => ⟨rfl, g2⟩⟩ (by omega)) (by omega)) (fun rv9 g9 hc9 => ?_)
    obtain ⟨rfl, sc1, rfl, hs1, hM1⟩ := hc9
    rw [rsq_1] at hM1 ⊢
    obtain ⟨hv_1, hA_1, hW_1, hWr_1, hD_1, hG_1⟩ := id hM1
    have hU1 : Same muF sc sc1 := Same.tr (by repeat (first | exact Same.rf | refine Same.us rfl ?_)) hs1
    rcases Decidable.em ((rex tp 58 (sk tp a + 1)).1 = -1) with he1 | he1
    · skip
      rw [show (if (pre [] (rex tp 58 (sk tp a + 1))).1 = -1 then (1 : Int) else 0) = 1 from if_pos he1]
      obtain ⟨k1, k1d⟩ := hG_1 he1
      have hb1 := (Rg.ex (tp := tp) (a := sk tp a + 1) (c := 58) (by omega) (by omega)).2 he1
      obtain ⟨c1, c2, c3⟩ := cl_1g (f := rd tp m) h121 he1
      refine RQ.seg 5 (pc' := 44) (L' := [some (.ref 80), some (.int (iI (lkm (lk tp a)))), some (.int (iI 1)), some (.int (iI 0)), none]) (st' := []) (g1 := (HW sc1 ar 81 oc rl ou tl, q)) rfl ?_
      refine RQ.im (m_bd81 ht hP (b := (rex tp 58 (sk tp a + 1)).2.1) hD ⟨hv_1, hA_1, hW_1.trans he1, by show (-1 : Int) ≤ -1 ∧ (-1 : Int) ≤ 160; omega, hD_1, fun _ => ⟨k1, k1d⟩⟩ (by omega) ((hU1 8013 rfl).trans e13) ((hU1 8017 rfl).trans e17) hf1 ((hU1 8014 rfl).trans e14) fo1 hC) (fun vv gg hq => ?_)
      obtain ⟨e0, sc9, e9, hs9, hM9, r17, r14, hv9⟩ := hq
      exact ⟨e0, sc9, e9, Same.tr (Same.w rfl hU1) hs9, MX.cg hM9 c1 (fun _ => c2), r17, r14, fun z => by rw [c3]; exact hv9 (c1.symm.trans z)⟩
    · skip
      rw [show (if (pre [] (rex tp 58 (sk tp a + 1))).1 = -1 then (1 : Int) else 0) = 0 from if_neg he1]
      refine RQ.seg 1 (pc' := 39) (L' := [some (.ref 80), some (.int (iI (lkm (lk tp a)))), none, none, none]) (st' := []) (g1 := (HW sc1 ar 81 oc rl ou tl, q)) rfl ?_
      refine RQ.ret rfl rfl ?_
      exact ⟨rfl, sc1, rfl, Same.w rfl hU1, MX.cg hM1 (cl_1b h121 he1) (fun z => absurd z he1), by have := hU1 8017 rfl; omega, by have := hU1 8014 rfl; omega, fun z => absurd ((cl_1b h121 he1).symm.trans z) he1⟩
  · skip
    refine RQ.call rfl rfl (CallR.up (d := 5) (m_among_yf (d := 0) (c := lkm (lk tp a)) (by omega) (by omega)) (by omega)) ?_
    refine RQ.seg 2 (pc' := 15) (L' := [some (.ref 80), some (.int (iI (lkm (lk tp a)))), none, none, none]) (st' := [.ref 80]) (g1 := (HW (usc sc 8010 (sk tp a)) ar 81 oc rl ou tl, q)) rfl ?_
    have hcall := m_fails (K := K) (d := 0) (tx := 81) (oc := oc) (rl := rl) (ou := ou) (tl := tl) (q := q) (sc := usc sc 8010 (sk tp a)) (ar := ar) (by show -1 ≤ sc 8011 ∧ sc 8011 ≤ 200; omega)
    rw [show (if (usc sc 8010 (sk tp a)) 8011 = -1 then (usc sc 8010 (sk tp a)) 8010 else (usc sc 8010 (sk tp a)) 8011) = sk tp a from if_pos hW] at hcall
    refine RQ.call rfl rfl (CallR.up hcall (by omega)) ?_
    refine RQ.seg 1 (pc' := 19) (L' := [some (.ref 80), some (.int (iI (lkm (lk tp a)))), none, none, none]) (st' := []) (g1 := (HW (usc (usc sc 8010 (sk tp a)) 8011 (sk tp a)) ar 81 oc rl ou tl, q)) rfl ?_
    refine RQ.ret rfl rfl ?_
    exact ⟨rfl, _, rfl, (by repeat (first | exact Same.rf | refine Same.us rfl ?_)), ⟨hv, by show 0 ≤ sk tp a ∧ sk tp a ≤ _; omega, (cl_0 h121 (by omega)).symm, by rw [cl_0 h121 (by omega)]; omega, hDp, fun z => absurd ((cl_0 h121 (by omega)).symm.trans z) (by omega)⟩, by show sc 8017 = 0 ∨ sc 8017 = 1; omega, by show -1000000 ≤ sc 8014 ∧ sc 8014 ≤ 1000000; omega, fun z => absurd ((cl_0 h121 (by omega)).symm.trans z) (by omega)⟩
theorem m_cf82 {K : PK} {D : Nat} {ar : Nat → Int → Int} {oc : Nat} {rl : Nat → Option Nat} {ou : Nat → Int64} {tl : List PO} {q : Nat × Nat} {Q : Option Value → PG → Prop} {sc : Nat → Int} {c0 is v : Int} {e4 : Option Value} {hf fo : Int} (e13 : sc 8013 = 121) (e17 : sc 8017 = hf) (hf1 : hf = 0 ∨ hf = 1) (e14 : sc 8014 = fo) (fo1 : -1000000 ≤ fo ∧ fo ≤ 1000000) (hc : c0 = 121) (his : is = 0 ∨ is = 1) (hr : -1 ≤ sc 8011 ∧ sc 8011 ≤ 160) (hk1 : ¬ (sc 8011 = -1 ∧ hf = 0 ∧ is = 1) → Q none (HW sc ar 82 oc rl ou tl, q)) (hk2 : (sc 8011 = -1 ∧ hf = 0 ∧ is = 1) → Q none (HW (usc (usc sc 8014 v) 8017 1) ar 82 oc rl ou tl, q)) : RQ K D 11 false none cd171 134 [some (.ref 80), some (.int (iI c0)), some (.int (iI is)), some (.int (iI v)), e4] [] (HW sc ar 82 oc rl ou tl, q) Q := by
  refine RQ.seg 3 (pc' := 139) (L' := [some (.ref 80), some (.int (iI c0)), some (.int (iI is)), some (.int (iI v)), e4]) (st' := [.int (iI (-1)), .int (iI (sc 8011))]) (g1 := (HW sc ar 82 oc rl ou tl, q)) rfl ?_
  refine RQ.if2 (a := (sc 8011)) (b := (-1)) rfl rfl rfl rfl (by omega) (by omega) (fun (h1 : sc 8011 ≠ (-1)) => ?_) (fun (h1 : ¬ sc 8011 ≠ (-1)) => ?_)
  · skip
    refine RQ.ret rfl rfl ?_
    exact hk1 (by omega)
  · skip
    refine RQ.seg 2 (pc' := 146) (L' := [some (.ref 80), some (.int (iI c0)), some (.int (iI is)), some (.int (iI v)), e4]) (st' := [.int (iI (sc 8017))]) (g1 := (HW sc ar 82 oc rl ou tl, q)) rfl ?_
    refine RQ.to (L' := [some (.ref 80), some (.int (iI c0)), some (.int (iI is)), some (.int (iI v)), e4]) (st' := [.int (iI hf)]) rfl (by rw [show sc 8017 = hf from e17]) ?_
    refine RQ.if1 (a := hf) rfl rfl rfl (by omega) (fun (h2 : hf ≠ 0) => ?_) (fun (h2 : ¬ hf ≠ 0) => ?_)
    · skip
      refine RQ.ret rfl rfl ?_
      exact hk1 (by omega)
    · skip
      refine RQ.seg 3 (pc' := 154) (L' := [some (.ref 80), some (.int (iI c0)), some (.int (iI is)), some (.int (iI v)), e4]) (st' := [.int (iI (sc 8013)), .int (iI c0)]) (g1 := (HW sc ar 82 oc rl ou tl, q)) rfl ?_
      refine RQ.to (L' := [some (.ref 80), some (.int (iI c0)), some (.int (iI is)), some (.int (iI v)), e4]) (st' := [.int (iI 121), .int (iI c0)]) rfl (by rw [show sc 8013 = 121 from e13]) ?_
      refine RQ.if2 (a := c0) (b := 121) rfl rfl rfl rfl (by omega) (by omega) (fun (h3 : c0 ≠ 121) => ?_) (fun (h3 : ¬ c0 ≠ 121) => ?_)
      · skip
        refine RQ.ret rfl rfl ?_
        exact hk1 (by omega)
      · skip
        refine RQ.seg 1 (pc' := 158) (L' := [some (.ref 80), some (.int (iI c0)), some (.int (iI is)), some (.int (iI v)), e4]) (st' := [.int (iI is)]) (g1 := (HW sc ar 82 oc rl ou tl, q)) rfl ?_
        refine RQ.if1 (a := is) rfl rfl rfl (by omega) (fun (h4 : is ≠ 0) => ?_) (fun (h4 : ¬ is ≠ 0) => ?_)
        · skip
          refine RQ.seg 6 (pc' := 172) (L' := [some (.ref 80), some (.int (iI c0)), some (.int (iI is)), some (.int (iI v)), e4]) (st' := []) (g1 := (HW (usc (usc sc 8014 v) 8017 1) ar 82 oc rl ou tl, q)) rfl ?_
          refine RQ.ret rfl rfl ?_
          first | exact hk2 (by omega) | exact hk1 (by omega)
        · skip
          refine RQ.ret rfl rfl ?_
          exact hk1 (by omega)
def QB_82 (tp : List Int) (bg : Int) (m : Nat) (r : RS) (hf fo is : Int) (sc : Nat → Int) (ar : Nat → Int → Int) (oc : Nat) (rl : Nat → Option Nat) (ou : Nat → Int64) (tl : List PO) (q : Nat × Nat) : Option Value → PG → Prop := fun v g' => v = none ∧ ∃ sc', g' = (HW sc' ar 82 oc rl ou tl, q) ∧ Same cuF sc sc' ∧ MX tp bg 640 (rsq (rap (rsq r (rex tp 63)) (-11)) (rd tp m 2 0)) 0 sc' (ar 82) ∧ (sc' 8017 = 0 ∨ sc' 8017 = 1) ∧ (-1000000 ≤ sc' 8014 ∧ sc' 8014 ≤ 1000000) ∧ ((rsq (rap (rsq r (rex tp 63)) (-11)) (rd tp m 2 0)).1 = -1 → ∃ v, ev (fun k => ar 84 (kc3 k)) (rd tp m 2 0 (rsq r (rex tp 63)).2.1).2.2 [] = [v] ∧ ((hf = 0 ∧ is = 1 ∧ sc' 8017 = 1 ∧ sc' 8014 = v) ∨ (¬ (hf = 0 ∧ is = 1) ∧ sc' 8017 = hf ∧ sc' 8014 = fo)))
theorem m_cb82_71 {K : PK} {D : Nat} {ar : Nat → Int → Int} {oc : Nat} {rl : Nat → Option Nat} {ou : Nat → Int64} {tl : List PO} {q : Nat × Nat} {tp : List Int} {bg : Int} {sc : Nat → Int} (ht : TpOK tp) {m : Nat} (p2 : MC K tp bg 640 82 ar m 2 165 7 [] []) {r : RS} {c0 is : Int} {e4 : Option Value} (hD : 48 ≤ D) (hM : MX tp bg 640 r 0 sc (ar 82)) (hF : r.1 = -1 → 16 * ((tp.length : Int) - r.2.1) ≤ (m : Int) + 12) {hf fo : Int} (e13 : sc 8013 = 121) (e17 : sc 8017 = hf) (hf1 : hf = 0 ∨ hf = 1) (e14 : sc 8014 = fo) (fo1 : -1000000 ≤ fo ∧ fo ≤ 1000000) (hc : c0 = 121) (his : is = 0 ∨ is = 1) : RQ K D 11 false none cd171 71 [some (.ref 80), some (.int (iI c0)), some (.int (iI is)), some (.int (iI 0)), e4] [] (HW sc ar 82 oc rl ou tl, q) (QB_82 tp bg m r hf fo is sc ar oc rl ou tl q) := by
  refine RQ.seg 2 (pc' := 74) (L' := [some (.ref 80), some (.int (iI c0)), some (.int (iI is)), some (.int (iI 0)), e4]) (st' := [.int (iI 63), .ref 80]) (g1 := (HW sc ar 82 oc rl ou tl, q)) rfl ?_
  refine RQ.callQ rfl rfl (CQ.up (m_takes82 (d := 0) (c := 63) (r := r) ht hM (by omega)) (by omega)) (fun rv9 g9 hc9 => ?_)
  obtain ⟨rfl, sc1, rfl, hs1, hM1⟩ := hc9
  obtain ⟨hv_1, hA_1, hW_1, hWr_1, hD_1, hG_1⟩ := id hM1
  have y17 : sc1 8017 = hf := (hs1 8017 rfl).trans e17
  have y13 : sc1 8013 = 121 := (hs1 8013 rfl).trans e13
  have y14 : sc1 8014 = fo := (hs1 8014 rfl).trans e14
  rcases Decidable.em ((rsq r (rex tp 63)).1 = -1) with he1 | he1
  · skip
    rw [if_pos he1]
    refine RQ.seg 2 (pc' := 82) (L' := [some (.ref 80), some (.int (iI c0)), some (.int (iI is)), some (.int (iI 0)), e4]) (st' := [.ref 80]) (g1 := (HW sc1 ar 82 oc rl ou tl, q)) rfl ?_
    obtain ⟨k1, k1d⟩ := hG_1 he1
    obtain ⟨i1, i2, i3⟩ := rsq_i he1
    have hF1 := hF i1
    have hG0 := hM.2.2.2.2.2 i1
    have hA0 := hM.2.1
    have hb4 := (Rg.ex (tp := tp) (a := r.2.1) (c := 63) (by omega) (by omega)).2 i2
    have e21 : (rsq r (rex tp 63)).2.1 = (rex tp 63 r.2.1).2.1 := by rw [rsq_p i1]; rfl
    refine RQ.callQ rfl rfl (CQ.up (p2 (D - 1) 6 0 (rsq r (rex tp 63)).2.1 sc1 oc rl ou tl q (by omega) (by omega) (by omega) ⟨hv_1, hA_1, hW_1.trans he1, by show (-1 : Int) ≤ -1 ∧ (-1 : Int) ≤ 160; omega, hD_1, fun _ => ⟨k1, k1d⟩⟩ (by show 16 * ((tp.length : Int) - (rsq r (rex tp 63)).2.1) + 3 ≤ (m : Int); rw [e21]; omega)) (by omega)) (fun rv9 g9 hc9 => ?_)
    obtain ⟨v5, sc5, rfl, hz5, rfl, hs5, hM5, hev5⟩ := hc9
    replace hz5 := hz5.2
    have hS5 : Same cuF sc sc5 := Same.w rfl (hs1.tr hs5)
    have eF : (rsq (rap (rsq r (rex tp 63)) (-11)) (rd tp m 2 0)) = pre ((rsq r (rex tp 63)).2.2 ++ [-11]) (rd tp m 2 0 (rsq r (rex tp 63)).2.1) := rsq_p (r := rap (rsq r (rex tp 63)) (-11)) he1
    refine RQ.seg 2 (pc' := 134) (L' := [some (.ref 80), some (.int (iI c0)), some (.int (iI is)), some (.int (iI v5)), e4]) (st' := []) (g1 := (HW sc5 ar 82 oc rl ou tl, q)) rfl ?_
    have x17 : sc5 8017 = hf := (hs5 8017 rfl).trans y17
    have x14 : sc5 8014 = fo := (hs5 8014 rfl).trans y14
    have hM6 : MX tp bg 640 (rsq (rap (rsq r (rex tp 63)) (-11)) (rd tp m 2 0)) 0 sc5 (ar 82) := by rw [eF]; exact hM5
    have hW5 : sc5 8011 = (rd tp m 2 0 (rsq r (rex tp 63)).2.1).1 := hM5.2.2.1
    refine m_cf82 (v := v5) ((hs5 8013 rfl).trans y13) x17 hf1 x14 fo1 hc his (by rw [hW5]; exact hM5.2.2.2.1) (fun hn => ?_) (fun hn => ?_)
    · refine ⟨rfl, sc5, rfl, hS5, hM6, by omega, by omega, fun z => ?_⟩
      rw [eF] at z
      have z5 : (rd tp m 2 0 (rsq r (rex tp 63)).2.1).1 = -1 := z
      exact ⟨v5, hev5 z5 [], Or.inr ⟨fun h => hn ⟨hW5.trans z5, h⟩, x17, x14⟩⟩
    · refine ⟨rfl, _, rfl, hS5.tr (by repeat (first | exact Same.rf | refine Same.us rfl ?_)), MX.us hM6 (fun k hk => by rcases hk with rfl | rfl | rfl | rfl | rfl <;> rfl), Or.inr rfl, hz5, fun z => ?_⟩
      rw [eF] at z
      have z5 : (rd tp m 2 0 (rsq r (rex tp 63)).2.1).1 = -1 := z
      exact ⟨v5, hev5 z5 [], Or.inl ⟨hn.2.1, hn.2.2, rfl, rfl⟩⟩
  · skip
    rw [if_neg he1]
    refine RQ.seg 1 (pc' := 80) (L' := [some (.ref 80), some (.int (iI c0)), some (.int (iI is)), some (.int (iI 0)), e4]) (st' := []) (g1 := (HW sc1 ar 82 oc rl ou tl, q)) rfl ?_
    refine RQ.ret rfl rfl ?_
    have eF : (rsq (rap (rsq r (rex tp 63)) (-11)) (rd tp m 2 0)) = rap (rsq r (rex tp 63)) (-11) := rsq_b (r := rap (rsq r (rex tp 63)) (-11)) he1
    exact ⟨rfl, sc1, rfl, Same.w rfl hs1, by rw [eF]; exact hM1, by omega, by omega, fun z => absurd (by rw [eF] at z; exact z) he1⟩
theorem m_cb82_119 {K : PK} {D : Nat} {ar : Nat → Int → Int} {oc : Nat} {rl : Nat → Option Nat} {ou : Nat → Int64} {tl : List PO} {q : Nat × Nat} {tp : List Int} {bg : Int} {sc : Nat → Int} (ht : TpOK tp) {m : Nat} (p2 : MC K tp bg 640 82 ar m 2 165 7 [] []) {r : RS} {c0 is v : Int} {e4 : Option Value} (hD : 48 ≤ D) (hM : MX tp bg 640 r 0 sc (ar 82)) (hF : r.1 = -1 → 16 * ((tp.length : Int) - r.2.1) ≤ (m : Int) + 12) {hf fo : Int} (e13 : sc 8013 = 121) (e17 : sc 8017 = hf) (hf1 : hf = 0 ∨ hf = 1) (e14 : sc 8014 = fo) (fo1 : -1000000 ≤ fo ∧ fo ≤ 1000000) (hc : c0 = 121) (his : is = 0 ∨ is = 1) : RQ K D 11 false none cd171 119 [some (.ref 80), some (.int (iI c0)), some (.int (iI is)), some (.int (iI v)), e4] [] (HW sc ar 82 oc rl ou tl, q) (QB_82 tp bg m r hf fo is sc ar oc rl ou tl q) := by
  refine RQ.seg 2 (pc' := 122) (L' := [some (.ref 80), some (.int (iI c0)), some (.int (iI is)), some (.int (iI v)), e4]) (st' := [.int (iI 63), .ref 80]) (g1 := (HW sc ar 82 oc rl ou tl, q)) rfl ?_
  refine RQ.callQ rfl rfl (CQ.up (m_takes82 (d := 0) (c := 63) (r := r) ht hM (by omega)) (by omega)) (fun rv9 g9 hc9 => ?_)
  obtain ⟨rfl, sc1, rfl, hs1, hM1⟩ := hc9
  obtain ⟨hv_1, hA_1, hW_1, hWr_1, hD_1, hG_1⟩ := id hM1
  have y17 : sc1 8017 = hf := (hs1 8017 rfl).trans e17
  have y13 : sc1 8013 = 121 := (hs1 8013 rfl).trans e13
  have y14 : sc1 8014 = fo := (hs1 8014 rfl).trans e14
  rcases Decidable.em ((rsq r (rex tp 63)).1 = -1) with he1 | he1
  · skip
    rw [if_pos he1]
    refine RQ.seg 2 (pc' := 130) (L' := [some (.ref 80), some (.int (iI c0)), some (.int (iI is)), some (.int (iI v)), e4]) (st' := [.ref 80]) (g1 := (HW sc1 ar 82 oc rl ou tl, q)) rfl ?_
    obtain ⟨k1, k1d⟩ := hG_1 he1
    obtain ⟨i1, i2, i3⟩ := rsq_i he1
    have hF1 := hF i1
    have hG0 := hM.2.2.2.2.2 i1
    have hA0 := hM.2.1
    have hb4 := (Rg.ex (tp := tp) (a := r.2.1) (c := 63) (by omega) (by omega)).2 i2
    have e21 : (rsq r (rex tp 63)).2.1 = (rex tp 63 r.2.1).2.1 := by rw [rsq_p i1]; rfl
    refine RQ.callQ rfl rfl (CQ.up (p2 (D - 1) 6 0 (rsq r (rex tp 63)).2.1 sc1 oc rl ou tl q (by omega) (by omega) (by omega) ⟨hv_1, hA_1, hW_1.trans he1, by show (-1 : Int) ≤ -1 ∧ (-1 : Int) ≤ 160; omega, hD_1, fun _ => ⟨k1, k1d⟩⟩ (by show 16 * ((tp.length : Int) - (rsq r (rex tp 63)).2.1) + 3 ≤ (m : Int); rw [e21]; omega)) (by omega)) (fun rv9 g9 hc9 => ?_)
    obtain ⟨v5, sc5, rfl, hz5, rfl, hs5, hM5, hev5⟩ := hc9
    replace hz5 := hz5.2
    have hS5 : Same cuF sc sc5 := Same.w rfl (hs1.tr hs5)
    have eF : (rsq (rap (rsq r (rex tp 63)) (-11)) (rd tp m 2 0)) = pre ((rsq r (rex tp 63)).2.2 ++ [-11]) (rd tp m 2 0 (rsq r (rex tp 63)).2.1) := rsq_p (r := rap (rsq r (rex tp 63)) (-11)) he1
    refine RQ.seg 1 (pc' := 134) (L' := [some (.ref 80), some (.int (iI c0)), some (.int (iI is)), some (.int (iI v5)), e4]) (st' := []) (g1 := (HW sc5 ar 82 oc rl ou tl, q)) rfl ?_
    have x17 : sc5 8017 = hf := (hs5 8017 rfl).trans y17
    have x14 : sc5 8014 = fo := (hs5 8014 rfl).trans y14
    have hM6 : MX tp bg 640 (rsq (rap (rsq r (rex tp 63)) (-11)) (rd tp m 2 0)) 0 sc5 (ar 82) := by rw [eF]; exact hM5
    have hW5 : sc5 8011 = (rd tp m 2 0 (rsq r (rex tp 63)).2.1).1 := hM5.2.2.1
    refine m_cf82 (v := v5) ((hs5 8013 rfl).trans y13) x17 hf1 x14 fo1 hc his (by rw [hW5]; exact hM5.2.2.2.1) (fun hn => ?_) (fun hn => ?_)
    · refine ⟨rfl, sc5, rfl, hS5, hM6, by omega, by omega, fun z => ?_⟩
      rw [eF] at z
      have z5 : (rd tp m 2 0 (rsq r (rex tp 63)).2.1).1 = -1 := z
      exact ⟨v5, hev5 z5 [], Or.inr ⟨fun h => hn ⟨hW5.trans z5, h⟩, x17, x14⟩⟩
    · refine ⟨rfl, _, rfl, hS5.tr (by repeat (first | exact Same.rf | refine Same.us rfl ?_)), MX.us hM6 (fun k hk => by rcases hk with rfl | rfl | rfl | rfl | rfl <;> rfl), Or.inr rfl, hz5, fun z => ?_⟩
      rw [eF] at z
      have z5 : (rd tp m 2 0 (rsq r (rex tp 63)).2.1).1 = -1 := z
      exact ⟨v5, hev5 z5 [], Or.inl ⟨hn.2.1, hn.2.2, rfl, rfl⟩⟩
  · skip
    rw [if_neg he1]
    refine RQ.seg 1 (pc' := 128) (L' := [some (.ref 80), some (.int (iI c0)), some (.int (iI is)), some (.int (iI v)), e4]) (st' := []) (g1 := (HW sc1 ar 82 oc rl ou tl, q)) rfl ?_
    refine RQ.ret rfl rfl ?_
    have eF : (rsq (rap (rsq r (rex tp 63)) (-11)) (rd tp m 2 0)) = rap (rsq r (rex tp 63)) (-11) := rsq_b (r := rap (rsq r (rex tp 63)) (-11)) he1
    exact ⟨rfl, sc1, rfl, Same.w rfl hs1, by rw [eF]; exact hM1, by omega, by omega, fun z => absurd (by rw [eF] at z; exact z) he1⟩
def QC_82 (tp : List Int) (bg : Int) (m : Nat) (b hf fo : Int) (sc : Nat → Int) (ar : Nat → Int → Int) (oc : Nat) (rl : Nat → Option Nat) (ou : Nat → Int64) (tl : List PO) (q : Nat × Nat) : Option Value → PG → Prop := fun v g' => v = none ∧ ∃ sc', g' = (HW sc' ar 82 oc rl ou tl, q) ∧ Same cuF sc sc' ∧ MX tp bg 640 (rBody tp (rd tp m) b) 0 sc' (ar 82) ∧ (sc' 8017 = 0 ∨ sc' 8017 = 1) ∧ (-1000000 ≤ sc' 8014 ∧ sc' 8014 ≤ 1000000) ∧ ((rBody tp (rd tp m) b).1 = -1 → FF (fun k => ar 84 (kc3 k)) ((rBody tp (rd tp m) b).2.2 ++ [-12]) hf fo (sc' 8017) (sc' 8014))
theorem m_bd82 {K : PK} {D : Nat} {ar : Nat → Int → Int} {oc : Nat} {rl : Nat → Option Nat} {ou : Nat → Int64} {tl : List PO} {q : Nat × Nat} {tp : List Int} {bg : Int} {sc : Nat → Int} (ht : TpOK tp) {m : Nat} (hP : MP_82 K tp bg ar m) {b c0 : Int} (hD : 48 ≤ D) (hM : MX tp bg 640 (-1, b, []) 0 sc (ar 82)) (hF : 16 * ((tp.length : Int) - b) + 6 ≤ (m : Int)) {hf fo : Int} (e13 : sc 8013 = 121) (e17 : sc 8017 = hf) (hf1 : hf = 0 ∨ hf = 1) (e14 : sc 8014 = fo) (fo1 : -1000000 ≤ fo ∧ fo ≤ 1000000) (hc : c0 = 121) : RQ K D 11 false none cd171 44 [some (.ref 80), some (.int (iI c0)), some (.int (iI 1)), some (.int (iI 0)), none] [] (HW sc ar 82 oc rl ou tl, q) (QC_82 tp bg m b hf fo sc ar oc rl ou tl q) := by
  obtain ⟨p0, p1, p2, p3, p4, p5, l6, l7, l8, l9, l11, p10, p12⟩ := hP
  have ht1 := ht.1
  obtain ⟨hv, hA, hW, hWr, hDp, hG⟩ := id hM
  obtain ⟨g1, g2⟩ := hG rfl
  replace g1 : sc 8010 = b := g1
  replace hW : sc 8011 = -1 := hW
  have hsk := sk_r (tp := tp) (p := b) (by omega)
  have hlk : 0 ≤ lk tp b ∧ lk tp b ≤ 255 := tch_r ht (sk tp b)
  have hlm := lkm_r hlk
  refine RQ.seg 1 (pc' := 45) (L' := [some (.ref 80), some (.int (iI c0)), some (.int (iI 1)), some (.int (iI 0)), none]) (st' := [.ref 80]) (g1 := (HW sc ar 82 oc rl ou tl, q)) rfl ?_
  refine RQ.call rfl rfl (CallR.up (d := 1) (m_look82 (d := 0) (sc := sc) (ar := ar) (a := b) ht hv g1 (by omega)) (by omega)) ?_
  refine RQ.seg 3 (pc' := 54) (L' := [some (.ref 80), some (.int (iI c0)), some (.int (iI 1)), some (.int (iI 0)), some (.int (iI (lkm (lk tp b))))]) (st' := [.int (iI 33), .int (iI (lkm (lk tp b)))]) (g1 := (HW (usc sc 8010 (sk tp b)) ar 82 oc rl ou tl, q)) rfl ?_
  refine RQ.if2 (a := (lkm (lk tp b))) (b := 33) rfl rfl rfl rfl (by omega) (by omega) (fun (h1 : lkm (lk tp b) = 33) => ?_) (fun (h1 : ¬ lkm (lk tp b) = 33) => ?_)
  · skip
    refine RQ.seg 3 (pc' := 67) (L' := [some (.ref 80), some (.int (iI c0)), some (.int (iI 1)), some (.int (iI 0)), some (.int (iI (lkm (lk tp b))))]) (st' := [.int (iI 0), .int (iI 0), .ref 80]) (g1 := (HW (usc sc 8010 (sk tp b)) ar 82 oc rl ou tl, q)) rfl ?_
    refine RQ.callQ rfl rfl (CQ.up (p5 (D - 1) 6 0 (sk tp b) (usc sc 8010 (sk tp b)) oc rl ou tl q (by omega) (by omega) (by omega) ⟨hv, by show 0 ≤ sk tp b ∧ sk tp b ≤ _; omega, hW, hWr, hDp, fun _ => ⟨rfl, g2⟩⟩ (by show 16 * ((tp.length : Int) - sk tp b) + 6 ≤ (m : Int); omega)) (by omega)) (fun rv9 g9 hc9 => ?_)
    obtain ⟨t3, sc3, rfl, hz3, rfl, hs3, hM3, hev3⟩ := hc9
    rw [rd_sk] at hM3 hev3
    have h01 : t3 = 0 ∨ t3 = 1 := by have := hz3.1 rfl; omega
    have hU3 : Same muF sc sc3 := Same.tr (by repeat (first | exact Same.rf | refine Same.us rfl ?_)) hs3
    refine RQ.seg 1 (pc' := 71) (L' := [some (.ref 80), some (.int (iI c0)), some (.int (iI t3)), some (.int (iI 0)), some (.int (iI (lkm (lk tp b))))]) (st' := []) (g1 := (HW sc3 ar 82 oc rl ou tl, q)) rfl ?_
    have eX : (rBody tp (rd tp m) b) = (rThen tp (rd tp m) 5 b) := if_pos (by omega)
    have hRg := ((rd_ok (tp := tp) m).at 5 0 (a := b) (by omega)).2
    refine RQ.im (m_cb82_71 ht p2 (r := rd tp m 5 0 b) hD hM3 (fun z => by have z2 : b + 1 ≤ (rd tp m 5 0 b).2.1 ∧ _ := hRg z; omega) ((hU3 8013 rfl).trans e13) ((hU3 8017 rfl).trans e17) hf1 ((hU3 8014 rfl).trans e14) fo1 hc h01) (fun vv gg hq => ?_)
    obtain ⟨e0, sc9, e9, hs9, hM9, r17, r14, hv9⟩ := hq
    refine ⟨e0, sc9, e9, Same.tr (Same.w rfl hU3) hs9, by rw [eX]; exact hM9, r17, r14, fun z => ?_⟩
    rw [eX] at z ⊢
    replace z : (rThen tp (rd tp m) 5 b).1 = -1 := z
    obtain ⟨v, hv1, hv2⟩ := hv9 z
    obtain ⟨q1, q2, q3, q4⟩ := rThen_c z
    have hW9 : ∀ c, wo (fun k => ar 84 (kc3 k)) (((rThen tp (rd tp m) 5 b).2.2 ++ [-12]) ++ c) false [] = if t3 = 0 then wo (fun k => ar 84 (kc3 k)) c false [] else v := w_5 (rd_ok m) (rd_ty m) (by omega) z (hev3 q1 []) hv1
    exact FF.of hf1 h01 hv2 hW9
  · skip
    refine RQ.seg 2 (pc' := 61) (L' := [some (.ref 80), some (.int (iI c0)), some (.int (iI 1)), some (.int (iI 0)), some (.int (iI (lkm (lk tp b))))]) (st' := [.int (iI 40), .int (iI (lkm (lk tp b)))]) (g1 := (HW (usc sc 8010 (sk tp b)) ar 82 oc rl ou tl, q)) rfl ?_
    refine RQ.if2 (a := (lkm (lk tp b))) (b := 40) rfl rfl rfl rfl (by omega) (by omega) (fun (h2 : lkm (lk tp b) ≠ 40) => ?_) (fun (h2 : ¬ lkm (lk tp b) ≠ 40) => ?_)
    · skip
      refine RQ.seg 1 (pc' := 90) (L' := [some (.ref 80), some (.int (iI c0)), some (.int (iI 1)), some (.int (iI 0)), some (.int (iI (lkm (lk tp b))))]) (st' := [.ref 80]) (g1 := (HW (usc sc 8010 (sk tp b)) ar 82 oc rl ou tl, q)) rfl ?_
      refine RQ.callQ rfl rfl (CQ.up (p2 (D - 1) 6 0 (sk tp b) (usc sc 8010 (sk tp b)) oc rl ou tl q (by omega) (by omega) (by omega) ⟨hv, by show 0 ≤ sk tp b ∧ sk tp b ≤ _; omega, hW, hWr, hDp, fun _ => ⟨rfl, g2⟩⟩ (by show 16 * ((tp.length : Int) - sk tp b) + 3 ≤ (m : Int); omega)) (by omega)) (fun rv9 g9 hc9 => ?_)
      obtain ⟨v2, sc2, rfl, hz2, rfl, hs2, hM2, hev2⟩ := hc9
      replace hz2 := hz2.2
      rw [rd_sk] at hM2 hev2
      obtain ⟨hv_2, hA_2, hW_2, hWr_2, hD_2, hG_2⟩ := id hM2
      have hU2 : Same muF sc sc2 := Same.tr (by repeat (first | exact Same.rf | refine Same.us rfl ?_)) hs2
      have eB : rBody tp (rd tp m) b = rsq (rd tp m 2 0 b) (fun b => if pcm (lk tp b) = -1 then (-1, sk tp b, []) else rThen tp (rd tp m) 12 b) := if_neg (by omega)
      rcases Decidable.em ((rd tp m 2 0 b).1 = -1) with he2 | he2
      · skip
        obtain ⟨k2, k2d⟩ := hG_2 he2
        have hw2 : sc2 8011 = -1 := hW_2.trans he2
        have hb2 : b + 1 ≤ (rd tp m 2 0 b).2.1 ∧ _ := ((rd_ok (tp := tp) m).at 2 0 (a := b) (by omega)).2 he2
        rw [rsq_p he2] at eB
        have hskc := sk_r (tp := tp) (p := (rd tp m 2 0 b).2.1) (by omega)
        have hlkc : 0 ≤ lk tp (rd tp m 2 0 b).2.1 ∧ lk tp (rd tp m 2 0 b).2.1 ≤ 255 := tch_r ht (sk tp (rd tp m 2 0 b).2.1)
        have hlmc := lkm_r hlkc
        have hty := rd_ty (tp := tp) m 2 0 b (by omega) (by omega) (by omega) (by omega) (by omega) he2 [] (by show ((0 : Nat) : Int) + 3 + 2 * (6 - 0) ≤ 64; omega)
        refine RQ.seg 4 (pc' := 99) (L' := [some (.ref 80), some (.int (iI c0)), some (.int (iI 1)), some (.int (iI v2)), some (.int (iI (lkm (lk tp b))))]) (st' := [.int (iI (-1)), .int (iI (sc2 8011))]) (g1 := (HW sc2 ar 82 oc rl ou tl, q)) rfl ?_
        refine RQ.if2 (a := (sc2 8011)) (b := (-1)) rfl rfl rfl rfl (by omega) (by omega) (fun (q : sc2 8011 ≠ (-1)) => absurd q (show ¬ sc2 8011 ≠ (-1) from by omega)) (fun _ => ?_)
        refine RQ.seg 1 (pc' := 103) (L' := [some (.ref 80), some (.int (iI c0)), some (.int (iI 1)), some (.int (iI v2)), some (.int (iI (lkm (lk tp b))))]) (st' := [.ref 80]) (g1 := (HW sc2 ar 82 oc rl ou tl, q)) rfl ?_
        refine RQ.call rfl rfl (CallR.up (d := 1) (m_look82 (d := 0) (sc := sc2) (ar := ar) (a := (rd tp m 2 0 b).2.1) ht hv_2 k2 (by omega)) (by omega)) ?_
        rcases Decidable.em (pcm (lk tp (rd tp m 2 0 b).2.1) ≠ -1) with hpa | hpa
        · skip
          rw [if_neg hpa] at eB
          have hpv := pcm_v hpa
          refine RQ.call rfl rfl (CallR.up (d := 1) (m_isSign_t (d := 0) (c := lkm (lk tp ((rd tp m 2 0 b).2.1))) (by omega) (by rw [pcm_m]; exact hpa)) (by omega)) ?_
          refine RQ.seg 4 (pc' := 115) (L' := [some (.ref 80), some (.int (iI c0)), some (.int (iI 1)), some (.int (iI v2)), some (.int (iI (lkm (lk tp b))))]) (st' := [.int (iI v2), .int (iI 1), .ref 80]) (g1 := (HW (usc sc2 8010 (sk tp ((rd tp m 2 0 b).2.1))) ar 82 oc rl ou tl, q)) rfl ?_
          refine RQ.callQ rfl rfl (CQ.up (p12 v2 hz2 (D - 1) 6 0 (sk tp (rd tp m 2 0 b).2.1) (usc sc2 8010 (sk tp ((rd tp m 2 0 b).2.1))) oc rl ou tl q (by omega) (by omega) (by omega) ⟨hv_2, by show 0 ≤ sk tp (rd tp m 2 0 b).2.1 ∧ sk tp (rd tp m 2 0 b).2.1 ≤ _; omega, hw2, by show (-1 : Int) ≤ -1 ∧ (-1 : Int) ≤ 160; omega, hD_2, fun _ => ⟨rfl, k2d⟩⟩ (by show 16 * ((tp.length : Int) - sk tp (rd tp m 2 0 b).2.1) + 3 ≤ (m : Int); omega)) (by omega)) (fun rv9 g9 hc9 => ?_)
          obtain ⟨t3, sc3, rfl, hz3, rfl, hs3, hM3, hev3⟩ := hc9
          rw [rd_sk] at hM3 hev3
          have h01 : t3 = 0 ∨ t3 = 1 := by have := hz3.1 rfl; omega
          have hU3 : Same muF sc sc3 := hU2.tr (Same.tr (by repeat (first | exact Same.rf | refine Same.us rfl ?_)) hs3)
          refine RQ.seg 1 (pc' := 119) (L' := [some (.ref 80), some (.int (iI c0)), some (.int (iI t3)), some (.int (iI v2)), some (.int (iI (lkm (lk tp b))))]) (st' := []) (g1 := (HW sc3 ar 82 oc rl ou tl, q)) rfl ?_
          have eX : (rBody tp (rd tp m) b) = pre (rd tp m 2 0 b).2.2 (rThen tp (rd tp m) 12 (rd tp m 2 0 b).2.1) := eB
          have hRg := ((rd_ok (tp := tp) m).at 12 0 (a := (rd tp m 2 0 b).2.1) (by omega)).2
          refine RQ.im (m_cb82_119 ht p2 (r := rd tp m 12 0 (rd tp m 2 0 b).2.1) hD hM3 (fun z => by have z2 : (rd tp m 2 0 b).2.1 + 1 ≤ (rd tp m 12 0 (rd tp m 2 0 b).2.1).2.1 ∧ _ := hRg z; omega) ((hU3 8013 rfl).trans e13) ((hU3 8017 rfl).trans e17) hf1 ((hU3 8014 rfl).trans e14) fo1 hc h01) (fun vv gg hq => ?_)
          obtain ⟨e0, sc9, e9, hs9, hM9, r17, r14, hv9⟩ := hq
          refine ⟨e0, sc9, e9, Same.tr (Same.w rfl hU3) hs9, by rw [eX]; exact hM9, r17, r14, fun z => ?_⟩
          rw [eX] at z ⊢
          replace z : (rThen tp (rd tp m) 12 (rd tp m 2 0 b).2.1).1 = -1 := z
          obtain ⟨v, hv1, hv2⟩ := hv9 z
          obtain ⟨q1, q2, q3, q4⟩ := rThen_c z
          have hW9 : ∀ c, wo (fun k => ar 84 (kc3 k)) ((((rd tp m 2 0 b).2.2 ++ (rThen tp (rd tp m) 12 (rd tp m 2 0 b).2.1).2.2) ++ [-12]) ++ c) false [] = if t3 = 0 then wo (fun k => ar 84 (kc3 k)) c false [] else v := w_12 (rd_ok m) (rd_ty m) (by omega) z hty (hev2 he2 []) (hev3 q1 []) hv1
          exact FF.of hf1 h01 hv2 hW9
        · skip
          rw [if_pos (by omega)] at eB
          refine RQ.call rfl rfl (CallR.up (d := 1) (m_isSign_f (d := 0) (c := lkm (lk tp ((rd tp m 2 0 b).2.1))) (by omega) (by rw [pcm_m]; exact hpa)) (by omega)) ?_
          refine RQ.seg 1 (pc' := 134) (L' := [some (.ref 80), some (.int (iI c0)), some (.int (iI 1)), some (.int (iI v2)), some (.int (iI (lkm (lk tp b))))]) (st' := []) (g1 := (HW (usc sc2 8010 (sk tp ((rd tp m 2 0 b).2.1))) ar 82 oc rl ou tl, q)) rfl ?_
          have hSx : Same cuF sc (usc sc2 8010 (sk tp ((rd tp m 2 0 b).2.1))) := Same.w rfl (Same.tr hU2 (show Same muF sc2 (usc sc2 8010 (sk tp ((rd tp m 2 0 b).2.1))) from (by repeat (first | exact Same.rf | refine Same.us rfl ?_))))
          have x17 : (usc sc2 8010 (sk tp ((rd tp m 2 0 b).2.1))) 8017 = hf := (hU2 8017 rfl).trans e17
          have x14 : (usc sc2 8010 (sk tp ((rd tp m 2 0 b).2.1))) 8014 = fo := (hU2 8014 rfl).trans e14
          have x13 : (usc sc2 8010 (sk tp ((rd tp m 2 0 b).2.1))) 8013 = 121 := (hU2 8013 rfl).trans e13
          have hMx : MX tp bg 640 (rBody tp (rd tp m) b) 0 (usc sc2 8010 (sk tp ((rd tp m 2 0 b).2.1))) (ar 82) := by rw [eB]; exact ⟨hv_2, by show 0 ≤ sk tp (rd tp m 2 0 b).2.1 ∧ sk tp (rd tp m 2 0 b).2.1 ≤ _; omega, hw2, by show (-1 : Int) ≤ -1 ∧ (-1 : Int) ≤ 160; omega, hD_2, fun _ => ⟨rfl, k2d⟩⟩
          have hW9 : ∀ c, wo (fun k => ar 84 (kc3 k)) (((rBody tp (rd tp m) b).2.2 ++ [-12]) ++ c) false [] = v2 := fun c => by rw [eB]; show wo _ ((((rd tp m 2 0 b).2.2 ++ []) ++ [-12]) ++ c) false [] = v2; rw [List.append_nil]; exact w_0 hty (hev2 he2 []) c
          refine m_cf82 (v := v2) x13 x17 hf1 x14 fo1 hc (Or.inr rfl) (by show -1 ≤ sc2 8011 ∧ sc2 8011 ≤ 160; omega) (fun hn => ?_) (fun hn => ?_)
          · refine ⟨rfl, _, rfl, hSx, hMx, by omega, by omega, fun z => ?_⟩
            rw [x17, x14]; exact FF.h1 (fun z0 => hn ⟨hw2, z0, rfl⟩) hf1
          · exact ⟨rfl, _, rfl, hSx.tr (by repeat (first | exact Same.rf | refine Same.us rfl ?_)), MX.us hMx (fun k hk => by rcases hk with rfl | rfl | rfl | rfl | rfl <;> rfl), Or.inr rfl, hz2, fun z => FF.t1 hn.2.1 hW9⟩
      · skip
        rw [rsq_b he2] at eB
        have hw2 : ¬ sc2 8011 = -1 := by omega
        refine RQ.seg 4 (pc' := 99) (L' := [some (.ref 80), some (.int (iI c0)), some (.int (iI 1)), some (.int (iI v2)), some (.int (iI (lkm (lk tp b))))]) (st' := [.int (iI (-1)), .int (iI (sc2 8011))]) (g1 := (HW sc2 ar 82 oc rl ou tl, q)) rfl ?_
        refine RQ.if2 (a := (sc2 8011)) (b := (-1)) rfl rfl rfl rfl (by omega) (by omega) (fun _ => ?_) (fun (q : ¬ sc2 8011 ≠ (-1)) => absurd (show sc2 8011 ≠ (-1) from by omega) q)
        have hSx : Same cuF sc (sc2) := Same.w rfl hU2
        refine m_cf82 (v := v2) ((hU2 8013 rfl).trans e13) ((hU2 8017 rfl).trans e17) hf1 ((hU2 8014 rfl).trans e14) fo1 hc (Or.inr rfl) (by omega) (fun hn => ?_) (fun hn => absurd hn.1 hw2)
        exact ⟨rfl, sc2, rfl, hSx, by rw [eB]; exact hM2, by have := hU2 8017 rfl; omega, by have := hU2 8014 rfl; omega, fun z => absurd (by rw [eB] at z; exact z) he2⟩
    · skip
      refine RQ.seg 3 (pc' := 67) (L' := [some (.ref 80), some (.int (iI c0)), some (.int (iI 1)), some (.int (iI 0)), some (.int (iI (lkm (lk tp b))))]) (st' := [.int (iI 0), .int (iI 0), .ref 80]) (g1 := (HW (usc sc 8010 (sk tp b)) ar 82 oc rl ou tl, q)) rfl ?_
      refine RQ.callQ rfl rfl (CQ.up (p5 (D - 1) 6 0 (sk tp b) (usc sc 8010 (sk tp b)) oc rl ou tl q (by omega) (by omega) (by omega) ⟨hv, by show 0 ≤ sk tp b ∧ sk tp b ≤ _; omega, hW, hWr, hDp, fun _ => ⟨rfl, g2⟩⟩ (by show 16 * ((tp.length : Int) - sk tp b) + 6 ≤ (m : Int); omega)) (by omega)) (fun rv9 g9 hc9 => ?_)
      obtain ⟨t3, sc3, rfl, hz3, rfl, hs3, hM3, hev3⟩ := hc9
      rw [rd_sk] at hM3 hev3
      have h01 : t3 = 0 ∨ t3 = 1 := by have := hz3.1 rfl; omega
      have hU3 : Same muF sc sc3 := Same.tr (by repeat (first | exact Same.rf | refine Same.us rfl ?_)) hs3
      refine RQ.seg 1 (pc' := 71) (L' := [some (.ref 80), some (.int (iI c0)), some (.int (iI t3)), some (.int (iI 0)), some (.int (iI (lkm (lk tp b))))]) (st' := []) (g1 := (HW sc3 ar 82 oc rl ou tl, q)) rfl ?_
      have eX : (rBody tp (rd tp m) b) = (rThen tp (rd tp m) 5 b) := if_pos (by omega)
      have hRg := ((rd_ok (tp := tp) m).at 5 0 (a := b) (by omega)).2
      refine RQ.im (m_cb82_71 ht p2 (r := rd tp m 5 0 b) hD hM3 (fun z => by have z2 : b + 1 ≤ (rd tp m 5 0 b).2.1 ∧ _ := hRg z; omega) ((hU3 8013 rfl).trans e13) ((hU3 8017 rfl).trans e17) hf1 ((hU3 8014 rfl).trans e14) fo1 hc h01) (fun vv gg hq => ?_)
      obtain ⟨e0, sc9, e9, hs9, hM9, r17, r14, hv9⟩ := hq
      refine ⟨e0, sc9, e9, Same.tr (Same.w rfl hU3) hs9, by rw [eX]; exact hM9, r17, r14, fun z => ?_⟩
      rw [eX] at z ⊢
      replace z : (rThen tp (rd tp m) 5 b).1 = -1 := z
      obtain ⟨v, hv1, hv2⟩ := hv9 z
      obtain ⟨q1, q2, q3, q4⟩ := rThen_c z
      have hW9 : ∀ c, wo (fun k => ar 84 (kc3 k)) (((rThen tp (rd tp m) 5 b).2.2 ++ [-12]) ++ c) false [] = if t3 = 0 then wo (fun k => ar 84 (kc3 k)) c false [] else v := w_5 (rd_ok m) (rd_ty m) (by omega) z (hev3 q1 []) hv1
      exact FF.of hf1 h01 hv2 hW9
def QK_82 (tp : List Int) (bg : Int) (m : Nat) (a hf fo : Int) (sc : Nat → Int) (ar : Nat → Int → Int) (oc : Nat) (rl : Nat → Option Nat) (ou : Nat → Int64) (tl : List PO) (q : Nat × Nat) : Option Value → PG → Prop := fun v g' => v = none ∧ ∃ sc', g' = (HW sc' ar 82 oc rl ou tl, q) ∧ Same cuF sc sc' ∧ MX tp bg 640 (rClause tp (rd tp m) a) 0 sc' (ar 82) ∧ (sc' 8017 = 0 ∨ sc' 8017 = 1) ∧ (-1000000 ≤ sc' 8014 ∧ sc' 8014 ≤ 1000000) ∧ ((rClause tp (rd tp m) a).1 = -1 → FF (fun k => ar 84 (kc3 k)) (rClause tp (rd tp m) a).2.2 hf fo (sc' 8017) (sc' 8014))
theorem m_clause82 {K : PK} {D : Nat} {ar : Nat → Int → Int} {oc : Nat} {rl : Nat → Option Nat} {ou : Nat → Int64} {tl : List PO} {q : Nat × Nat} {tp : List Int} {bg : Int} {sc : Nat → Int} (ht : TpOK tp) {m : Nat} (hP : MP_82 K tp bg ar m) {a : Int} (hD : 48 ≤ D) (hM : MX tp bg 640 (-1, a, []) 0 sc (ar 82)) (hF : 16 * ((tp.length : Int) - a) ≤ (m : Int)) {hf fo : Int} (e13 : sc 8013 = 121) (e17 : sc 8017 = hf) (hf1 : hf = 0 ∨ hf = 1) (e14 : sc 8014 = fo) (fo1 : -1000000 ≤ fo ∧ fo ≤ 1000000) : CQ K (D + 1) 171 [.ref 80] (HW sc ar 82 oc rl ou tl, q) (QK_82 tp bg m a hf fo sc ar oc rl ou tl q) := by
  have ht1 := ht.1
  obtain ⟨hv, hA, hW, hWr, hDp, hG⟩ := id hM
  obtain ⟨g1, g2⟩ := hG rfl
  replace g1 : sc 8010 = a := g1
  replace hW : sc 8011 = -1 := hW
  have hsk := sk_r (tp := tp) (p := a) (by omega)
  have hlk : 0 ≤ lk tp a ∧ lk tp a ≤ 255 := tch_r ht (sk tp a)
  have hlm := lkm_r hlk
  refine CQ.of (own := 11) (n := 5) (ini := false) (rt := none) (cd := cd171) (by decide +kernel) rfl (by decide +kernel) rfl (Nat.le_of_ble_eq_true rfl) ?_
  refine RQ.seg 1 (pc' := 1) (L' := [some (.ref 80), none, none, none, none]) (st' := [.ref 80]) (g1 := (HW sc ar 82 oc rl ou tl, q)) rfl ?_
  refine RQ.call rfl rfl (CallR.up (d := 1) (m_look82 (d := 0) (sc := sc) (ar := ar) (a := a) ht hv g1 (by omega)) (by omega)) ?_
  refine RQ.seg 3 (pc' := 8) (L' := [some (.ref 80), some (.int (iI (lkm (lk tp a)))), none, none, none]) (st' := [.int (iI (lkm (lk tp a))), .retAddr 20]) (g1 := (HW (usc sc 8010 (sk tp a)) ar 82 oc rl ou tl, q)) rfl ?_
  rcases Decidable.em (lk tp a = 121) with h121 | h121
  · skip
    have hps := lk_in (tp := tp) (a := a) (by omega) (by omega)
    have hC : lkm (lk tp a) = 121 := by omega
    refine RQ.call rfl rfl (CallR.up (d := 5) (m_among_yt (d := 0) (c := lkm (lk tp a)) (by omega) (by omega)) (by omega)) ?_
    refine RQ.seg 6 (pc' := 27) (L' := [some (.ref 80), some (.int (iI (lkm (lk tp a)))), none, none, none]) (st' := [.int ((iI (sk tp a)) + (iI 1)), .ref 80]) (g1 := (HW (usc sc 8010 (sk tp a)) ar 82 oc rl ou tl, q)) rfl ?_
    refine RQ.to (L' := [some (.ref 80), some (.int (iI (lkm (lk tp a)))), none, none, none]) (st' := [.int (iI (sk tp a + 1)), .ref 80]) rfl (by simp only [iI_add, iI_sub, iI_mul, iI_neg]) ?_
    refine RQ.seg 3 (pc' := 33) (L' := [some (.ref 80), some (.int (iI (lkm (lk tp a)))), none, none, none]) (st' := [.int (iI 58), .ref 80]) (g1 := (HW (usc sc 8010 (sk tp a + 1)) ar 82 oc rl ou tl, q)) rfl ?_
    refine RQ.callQ rfl rfl (CQ.up (m_takes82 (d := 0) (c := 58) (r := ((-1, sk tp a + 1, []) : RS)) ht ⟨hv, by show 0 ≤ sk tp a + 1 ∧ sk tp a + 1 ≤ _; omega, hW, hWr, hDp, fun _ => ⟨rfl, g2⟩⟩ (by omega)) (by omega)) (fun rv9 g9 hc9 => ?_)
    obtain ⟨rfl, sc1, rfl, hs1, hM1⟩ := hc9
    rw [rsq_1] at hM1 ⊢
    obtain ⟨hv_1, hA_1, hW_1, hWr_1, hD_1, hG_1⟩ := id hM1
    have hU1 : Same muF sc sc1 := Same.tr (by repeat (first | exact Same.rf | refine Same.us rfl ?_)) hs1
    rcases Decidable.em ((rex tp 58 (sk tp a + 1)).1 = -1) with he1 | he1
    · skip
      rw [show (if (pre [] (rex tp 58 (sk tp a + 1))).1 = -1 then (1 : Int) else 0) = 1 from if_pos he1]
      obtain ⟨k1, k1d⟩ := hG_1 he1
      have hb1 := (Rg.ex (tp := tp) (a := sk tp a + 1) (c := 58) (by omega) (by omega)).2 he1
      obtain ⟨c1, c2, c3⟩ := cl_1g (f := rd tp m) h121 he1
      refine RQ.seg 5 (pc' := 44) (L' := [some (.ref 80), some (.int (iI (lkm (lk tp a)))), some (.int (iI 1)), some (.int (iI 0)), none]) (st' := []) (g1 := (HW sc1 ar 82 oc rl ou tl, q)) rfl ?_
      refine RQ.im (m_bd82 ht hP (b := (rex tp 58 (sk tp a + 1)).2.1) hD ⟨hv_1, hA_1, hW_1.trans he1, by show (-1 : Int) ≤ -1 ∧ (-1 : Int) ≤ 160; omega, hD_1, fun _ => ⟨k1, k1d⟩⟩ (by omega) ((hU1 8013 rfl).trans e13) ((hU1 8017 rfl).trans e17) hf1 ((hU1 8014 rfl).trans e14) fo1 hC) (fun vv gg hq => ?_)
      obtain ⟨e0, sc9, e9, hs9, hM9, r17, r14, hv9⟩ := hq
      exact ⟨e0, sc9, e9, Same.tr (Same.w rfl hU1) hs9, MX.cg hM9 c1 (fun _ => c2), r17, r14, fun z => by rw [c3]; exact hv9 (c1.symm.trans z)⟩
    · skip
      rw [show (if (pre [] (rex tp 58 (sk tp a + 1))).1 = -1 then (1 : Int) else 0) = 0 from if_neg he1]
      refine RQ.seg 1 (pc' := 39) (L' := [some (.ref 80), some (.int (iI (lkm (lk tp a)))), none, none, none]) (st' := []) (g1 := (HW sc1 ar 82 oc rl ou tl, q)) rfl ?_
      refine RQ.ret rfl rfl ?_
      exact ⟨rfl, sc1, rfl, Same.w rfl hU1, MX.cg hM1 (cl_1b h121 he1) (fun z => absurd z he1), by have := hU1 8017 rfl; omega, by have := hU1 8014 rfl; omega, fun z => absurd ((cl_1b h121 he1).symm.trans z) he1⟩
  · skip
    refine RQ.call rfl rfl (CallR.up (d := 5) (m_among_yf (d := 0) (c := lkm (lk tp a)) (by omega) (by omega)) (by omega)) ?_
    refine RQ.seg 2 (pc' := 15) (L' := [some (.ref 80), some (.int (iI (lkm (lk tp a)))), none, none, none]) (st' := [.ref 80]) (g1 := (HW (usc sc 8010 (sk tp a)) ar 82 oc rl ou tl, q)) rfl ?_
    have hcall := m_fails (K := K) (d := 0) (tx := 82) (oc := oc) (rl := rl) (ou := ou) (tl := tl) (q := q) (sc := usc sc 8010 (sk tp a)) (ar := ar) (by show -1 ≤ sc 8011 ∧ sc 8011 ≤ 200; omega)
    rw [show (if (usc sc 8010 (sk tp a)) 8011 = -1 then (usc sc 8010 (sk tp a)) 8010 else (usc sc 8010 (sk tp a)) 8011) = sk tp a from if_pos hW] at hcall
    refine RQ.call rfl rfl (CallR.up hcall (by omega)) ?_
    refine RQ.seg 1 (pc' := 19) (L' := [some (.ref 80), some (.int (iI (lkm (lk tp a)))), none, none, none]) (st' := []) (g1 := (HW (usc (usc sc 8010 (sk tp a)) 8011 (sk tp a)) ar 82 oc rl ou tl, q)) rfl ?_
    refine RQ.ret rfl rfl ?_
    exact ⟨rfl, _, rfl, (by repeat (first | exact Same.rf | refine Same.us rfl ?_)), ⟨hv, by show 0 ≤ sk tp a ∧ sk tp a ≤ _; omega, (cl_0 h121 (by omega)).symm, by rw [cl_0 h121 (by omega)]; omega, hDp, fun z => absurd ((cl_0 h121 (by omega)).symm.trans z) (by omega)⟩, by show sc 8017 = 0 ∨ sc 8017 = 1; omega, by show -1000000 ≤ sc 8014 ∧ sc 8014 ≤ 1000000; omega, fun z => absurd ((cl_0 h121 (by omega)).symm.trans z) (by omega)⟩
