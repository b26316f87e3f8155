/-! the reference reads a rule: atoms, by wip/tools -/
/-! the reference reads a rule: atoms -/
theorem RQ.up9 {K : PK} {d d' own : Nat} {ini : Bool} {rt : Option FieldType} {cd : PC} {pc : Nat} {L : PL} {st : List Value} {g : PG} {Q : Option Value → PG → Prop} (h : RQ K d own ini rt cd pc L st g Q) (hd : d = d') : RQ K d' own ini rt cd pc L st g Q := hd ▸ h
theorem pr_m (c : Int) : pr (lkm c) = pr c := by unfold lkm; split; (rename_i h; rw [h]; rfl); rfl
theorem pr_k {c : Int} (h : pr c ≠ -1) : (99 ≤ c ∧ c ≤ 111) ∧ kc3 (pr c) = c := by
  unfold pr at h ⊢
  by_cases c1 : c = 100
  · subst c1; decide
  by_cases c2 : c = 104
  · subst c2; decide
  by_cases c3 : c = 99
  · subst c3; decide
  by_cases c4 : c = 102
  · subst c4; decide
  by_cases c5 : c = 111
  · subst c5; decide
  by_cases c6 : c = 107
  · subst c6; decide
  rw [if_neg c1, if_neg c2, if_neg c3, if_neg c4, if_neg c5, if_neg c6] at h
  exact absurd rfl h
def QM (tp : List Int) (bg N : Int) (t nt : Nat) (r : RS) (dp : Int) (ins : List Int) (sc : Nat → Int) (ar : Nat → Int → Int) (oc : Nat) (rl : Nat → Option Nat) (ou : Nat → Int64) (tl : List PO) (q : Nat × Nat) : Option Value → PG → Prop := fun v g' => ∃ z sc', v = some (.int (iI z)) ∧ ((tou nt = true → 0 ≤ z ∧ z ≤ 1) ∧ -1000000 ≤ z ∧ z ≤ 1000000) ∧ g' = (HW sc' ar t oc rl ou tl, q) ∧ Same muF sc sc' ∧ MX tp bg N r dp sc' (ar t) ∧ (r.1 = -1 → ∀ st, ev (fun k => ar 84 (kc3 k)) r.2.2 (ins ++ st) = z :: st)
def MC (K : PK) (tp : List Int) (bg N : Int) (t : Nat) (ar : Nat → Int → Int) (m nt k D0 : Nat) (xs : List Value) (ins : List Int) : Prop := ∀ (D u : Nat) (dp a : Int) (sc : Nat → Int) (oc : Nat) (rl : Nat → Option Nat) (ou : Nat → Int64) (tl : List PO) (q : Nat × Nat), dp + u = 6 → 0 ≤ dp → 6 * u + D0 ≤ D → MX tp bg N (-1, a, []) dp sc (ar t) → Fu tp m nt a → CQ K (D + 1) k (.ref 80 :: xs) (HW sc ar t oc rl ou tl, q) (QM tp bg N t nt (rd tp m nt dp a) dp ins sc ar oc rl ou tl q)
def LtOK (ar : Nat → Int → Int) : Prop := ∀ k, 0 ≤ k → k < 6 → -1000000 ≤ ar 84 (kc3 k) ∧ ar 84 (kc3 k) ≤ 1000000
theorem ev_num {L : Int → Int} {v : Int} (h : 0 ≤ v) (st : List Int) : ev L [v] st = v :: st := by
  show ev1 L v st = v :: st
  unfold ev1
  rw [if_pos h]
theorem ev_let {L : Int → Int} {k : Int} (h : 0 ≤ k) (st : List Int) : ev L [-13 - k] st = L k :: st := by
  show ev1 L (-13 - k) st = L k :: st
  unfold ev1
  rw [if_neg (by omega), if_pos (by omega), show -13 - (-13 - k) = k by omega]
theorem ms81_0 {K : PK} {tp : List Int} {bg : Int} {ar : Nat → Int → Int} (ht : TpOK tp) (hL : LtOK ar) {m : Nat} (p2 : MC K tp bg 160 81 ar m 2 165 7 [] []) : MC K tp bg 160 81 ar (m + 1) 0 163 5 [] [] := by
  intro D u dp a sc oc rl ou tl q hdu hdp hD hM hF
  have ht1 := ht.1
  obtain ⟨hv, hA, hW, hWr, hDp, hG⟩ := id hM
  obtain ⟨g1, g2⟩ := hG rfl
  replace g1 : sc 8010 = a := g1
  replace hW : sc 8011 = -1 := hW
  have hFu : 16 * ((tp.length : Int) - a) + 1 ≤ ((m + 1 : Nat) : Int) := hF
  have hsk := sk_r (tp := tp) (p := a) (by omega)
  have hlk : 0 ≤ lk tp a ∧ lk tp a ≤ 255 := tch_r ht (sk tp a)
  have hlm := lkm_r hlk
  have hnm := nmR_r (tp := tp) (k := 4) (a := a) (by omega) (by omega)
  have hpr := pr_r (lk tp a)
  obtain ⟨hv1, hv2, hv3, hv4⟩ := id hv
  refine CQ.of (own := 11) (n := 4) (ini := false) (rt := (some .int)) (cd := cd163) (by decide +kernel) rfl (by decide +kernel) rfl (Nat.le_of_ble_eq_true rfl) ?_
  refine RQ.seg 1 (pc' := 1) (L' := [some (.ref 80), none, none, none]) (st' := [.ref 80]) (g1 := (HW sc ar 81 oc rl ou tl, q)) rfl ?_
  refine RQ.call rfl rfl (CallR.up (d := 1) (m_look81 (d := 0) (sc := sc) (ar := ar) (a := a) ht hv g1 (by omega)) (by omega)) ?_
  refine RQ.seg 3 (pc' := 8) (L' := [some (.ref 80), some (.int (iI (lkm (lk tp a)))), none, none]) (st' := [.int (iI (lkm (lk tp a))), .retAddr 21]) (g1 := (HW (usc sc 8010 (sk tp a)) ar 81 oc rl ou tl, q)) rfl ?_
  rcases Decidable.em (pr (lk tp a) ≠ -1) with hpa | hpa
  · skip
    obtain ⟨hpk1, hpk2⟩ := pr_k hpa
    have hlc : lkm (lk tp a) = lk tp a := hlm.2.2.2.1 (by omega)
    have hps := lk_in (tp := tp) (a := a) (by omega) (by omega)
    have hLt := hL (pr (lk tp a)) (by omega) (by omega)
    rw [hpk2] at hLt
    refine RQ.call rfl rfl (CallR.up (d := 5) (m_among_rt (d := 0) (c := lkm (lk tp a)) (by omega) (by rw [pr_m]; exact hpa)) (by omega)) ?_
    refine RQ.seg 6 (pc' := 21) (L' := [some (.ref 80), some (.int (iI (lkm (lk tp a)))), none, none]) (st' := [.int ((iI (sk tp a)) + (iI 1)), .ref 80]) (g1 := (HW (usc sc 8010 (sk tp a)) ar 81 oc rl ou tl, q)) rfl ?_
    refine RQ.to (L' := [some (.ref 80), some (.int (iI (lkm (lk tp a)))), none, none]) (st' := [.int (iI (sk tp a + 1)), .ref 80]) rfl (by simp only [iI_add, iI_sub, iI_mul, iI_neg]) ?_
    refine RQ.seg 4 (pc' := 29) (L' := [some (.ref 80), some (.int (iI (lkm (lk tp a)))), none, none]) (st' := [.int (iI (lkm (lk tp a))), .ref 84]) (g1 := (HW (usc sc 8010 (sk tp a + 1)) ar 81 oc rl ou tl, q)) rfl ?_
    refine RQ.iald (z := (lkm (lk tp a))) rfl rfl rfl (by omega) (by decide) ?_
    refine RQ.ret rfl rfl ?_
    rw [show rd tp (m + 1) 0 dp a = (-1, sk tp a + 1, [-13 - pr (lk tp a)]) by show rAtom tp (rd tp m) dp a = _; unfold rAtom; rw [if_pos hpa]]
    refine ⟨_, _, rfl, ⟨fun z9 => absurd z9 (by decide), by rw [hlc]; exact hLt⟩, rfl, (by repeat (first | exact Same.rf | refine Same.us rfl ?_)), ⟨hv, by show 0 ≤ sk tp a + 1 ∧ sk tp a + 1 ≤ _; omega, hW, hWr, hDp, fun _ => ⟨rfl, g2⟩⟩, fun _ st => ?_⟩
    rw [hlc]
    refine (ev_let (by omega) st).trans ?_
    show ar 84 (kc3 (pr (lk tp a))) :: st = _; rw [hpk2]
  · skip
    refine RQ.call rfl rfl (CallR.up (d := 5) (m_among_rf (d := 0) (c := lkm (lk tp a)) (by omega) (by rw [pr_m]; exact hpa)) (by omega)) ?_
    refine RQ.seg 3 (pc' := 34) (L' := [some (.ref 80), some (.int (iI (lkm (lk tp a)))), none, none]) (st' := [.int (iI 91), .int (iI (lkm (lk tp a)))]) (g1 := (HW (usc sc 8010 (sk tp a)) ar 81 oc rl ou tl, q)) rfl ?_
    refine RQ.if2 (a := (lkm (lk tp a))) (b := 91) rfl rfl rfl rfl (by omega) (by omega) (fun (h1 : lkm (lk tp a) ≠ 91) => ?_) (fun (h1 : ¬ lkm (lk tp a) ≠ 91) => ?_)
    · skip
      refine RQ.seg 1 (pc' := 75) (L' := [some (.ref 80), some (.int (iI (lkm (lk tp a)))), none, none]) (st' := [.ref 80]) (g1 := (HW (usc sc 8010 (sk tp a)) ar 81 oc rl ou tl, q)) rfl ?_
      rcases Decidable.em (dig (tch tp (sk tp a))) with hdg | hdg
      · skip
        refine RQ.call rfl rfl (CallR.up (d := 1) (m_dig81t (d := 0) (sc := usc sc 8010 (sk tp a)) (ar := ar) (a := sk tp a) ht hv rfl (by omega) hdg) (by omega)) ?_
        refine RQ.seg 5 (pc' := 90) (L' := [some (.ref 80), some (.int (iI (lkm (lk tp a)))), some (.int (iI 0)), some (.int (iI 0))]) (st' := []) (g1 := (HW (usc sc 8010 (sk tp a)) ar 81 oc rl ou tl, q)) rfl ?_
        have en : nmR tp 4 a = (if dig (tch tp (nmn tp 4 (sk tp a) 0).2) then (nmn tp 4 (sk tp a) 0).2 else -1, (nmn tp 4 (sk tp a) 0).1, (nmn tp 4 (sk tp a) 0).2) := by unfold nmR; rw [if_pos hdg]
        rw [show rd tp (m + 1) 0 dp a = ((nmR tp 4 a).1, (nmR tp 4 a).2.2, [(nmR tp 4 a).2.1]) by show rAtom tp (rd tp m) dp a = _; unfold rAtom; rw [if_neg hpa, if_neg (by omega)]]
        rw [en] at hnm ⊢
        refine RQ.up9 (m_dg81_l (d := D - 1) ht hv hW 4 0 (sk tp a) 0 (by omega) (by omega) (by omega) ⟨by omega, by omega, by omega, by omega, by omega, by omega⟩ (fun hn => ?_) (fun hn => ?_)) (by omega)
        · rw [if_neg hn] at hnm ⊢
          dsimp only at hnm
          exact ⟨_, _, rfl, ⟨fun z => absurd z (by decide), by omega, by omega⟩, rfl, (by repeat (first | exact Same.rf | refine Same.us rfl ?_)), ⟨hv, by show 0 ≤ (nmn tp 4 (sk tp a) 0).2 ∧ (nmn tp 4 (sk tp a) 0).2 ≤ _; omega, hW, hWr, hDp, fun _ => ⟨rfl, g2⟩⟩, fun _ st => ev_num (v := (nmn tp 4 (sk tp a) 0).1) (by omega) st⟩
        · rw [if_pos hn] at hnm ⊢
          dsimp only at hnm
          exact ⟨0, _, rfl, ⟨fun z => absurd z (by decide), by omega, by omega⟩, rfl, (by repeat (first | exact Same.rf | refine Same.us rfl ?_)), ⟨hv, by show 0 ≤ (nmn tp 4 (sk tp a) 0).2 ∧ (nmn tp 4 (sk tp a) 0).2 ≤ _; omega, rfl, by show -1 ≤ (nmn tp 4 (sk tp a) 0).2 ∧ (nmn tp 4 (sk tp a) 0).2 ≤ 160; omega, hDp, fun z => absurd (show (nmn tp 4 (sk tp a) 0).2 = -1 from z) (by omega)⟩, fun z => absurd (show (nmn tp 4 (sk tp a) 0).2 = -1 from z) (by omega)⟩
      · skip
        refine RQ.call rfl rfl (CallR.up (d := 1) (m_dig81f (d := 0) (sc := usc sc 8010 (sk tp a)) (ar := ar) (a := sk tp a) ht hv rfl (by omega) hdg) (by omega)) ?_
        refine RQ.seg 2 (pc' := 82) (L' := [some (.ref 80), some (.int (iI (lkm (lk tp a)))), none, none]) (st' := [.ref 80]) (g1 := (HW (usc sc 8010 (sk tp a)) ar 81 oc rl ou tl, q)) rfl ?_
        have hcall := m_fails (K := K) (d := 0) (tx := 81) (oc := oc) (rl := rl) (ou := ou) (tl := tl) (q := q) (sc := usc sc 8010 (sk tp a)) (ar := ar) (by show -1 ≤ sc 8011 ∧ sc 8011 ≤ 200; omega)
        rw [show (if (usc sc 8010 (sk tp a)) 8011 = -1 then (usc sc 8010 (sk tp a)) 8010 else (usc sc 8010 (sk tp a)) 8011) = sk tp a from if_pos hW] at hcall
        refine RQ.call rfl rfl (CallR.up hcall (by omega)) ?_
        refine RQ.seg 5 (pc' := 90) (L' := [some (.ref 80), some (.int (iI (lkm (lk tp a)))), some (.int (iI 0)), some (.int (iI 0))]) (st' := []) (g1 := (HW (usc (usc sc 8010 (sk tp a)) 8011 (sk tp a)) ar 81 oc rl ou tl, q)) rfl ?_
        refine RQ.seg 1 (pc' := 91) (L' := [some (.ref 80), some (.int (iI (lkm (lk tp a)))), some (.int (iI 0)), some (.int (iI 0))]) (st' := [.ref 80]) (g1 := (HW (usc (usc sc 8010 (sk tp a)) 8011 (sk tp a)) ar 81 oc rl ou tl, q)) rfl ?_
        refine RQ.call rfl rfl (CallR.up (d := 1) (m_dig81f (d := 0) (sc := usc (usc sc 8010 (sk tp a)) 8011 (sk tp a)) (ar := ar) (a := sk tp a) ht hv rfl (by omega) hdg) (by omega)) ?_
        refine RQ.seg 2 (pc' := 157) (L' := [some (.ref 80), some (.int (iI (lkm (lk tp a)))), some (.int (iI 0)), some (.int (iI 0))]) (st' := [.int (iI 0)]) (g1 := (HW (usc (usc sc 8010 (sk tp a)) 8011 (sk tp a)) ar 81 oc rl ou tl, q)) rfl ?_
        refine RQ.ret rfl rfl ?_
        rw [show rd tp (m + 1) 0 dp a = ((nmR tp 4 a).1, (nmR tp 4 a).2.2, [(nmR tp 4 a).2.1]) by show rAtom tp (rd tp m) dp a = _; unfold rAtom; rw [if_neg hpa, if_neg (by omega)]]
        rw [show nmR tp 4 a = (sk tp a, 0, sk tp a) by unfold nmR; rw [if_neg hdg]]
        exact ⟨0, _, rfl, ⟨fun z => absurd z (by decide), by omega, by omega⟩, rfl, (by repeat (first | exact Same.rf | refine Same.us rfl ?_)), ⟨hv, by show 0 ≤ sk tp a ∧ sk tp a ≤ _; omega, rfl, by show -1 ≤ sk tp a ∧ sk tp a ≤ 160; omega, hDp, fun z => absurd (show sk tp a = -1 from z) (by omega)⟩, fun z => absurd (show sk tp a = -1 from z) (by omega)⟩
    · skip
      refine RQ.seg 1 (pc' := 38) (L' := [some (.ref 80), some (.int (iI (lkm (lk tp a)))), none, none]) (st' := [.ref 80]) (g1 := (HW (usc sc 8010 (sk tp a)) ar 81 oc rl ou tl, q)) rfl ?_
      have h91 : lk tp a = 91 := by omega
      have hps := lk_in (tp := tp) (a := a) (by omega) (by omega)
      rcases Decidable.em (dp < 6) with hd6 | hd6
      · refine RQ.call rfl rfl (CallR.up (d := 2) (m_goes81t (d := 0) (sc := usc sc 8010 (sk tp a)) (ar := ar) (dp := dp) g2 (by omega) (by show 0 ≤ sk tp a ∧ sk tp a ≤ 160; omega) hW hd6) (by omega)) ?_
        refine RQ.hp (g1 := (HW (usc (usc sc 8010 (sk tp a + 1)) 8012 (dp + 1)) ar 81 oc rl ou tl, q)) (HW_e (by rw [usc_uu _ 8010 _ _]; try rfl) rfl) ?_
        refine RQ.seg 2 (pc' := 47) (L' := [some (.ref 80), some (.int (iI (lkm (lk tp a)))), none, none]) (st' := [.ref 80]) (g1 := (HW (usc (usc sc 8010 (sk tp a + 1)) 8012 (dp + 1)) ar 81 oc rl ou tl, q)) rfl ?_
        refine RQ.callQ rfl rfl (CQ.up (p2 (D - 1) (u - 1) (dp + 1) (sk tp a + 1) (usc (usc sc 8010 (sk tp a + 1)) 8012 (dp + 1)) oc rl ou tl q (by omega) (by omega) (by omega) ⟨hv, by show 0 ≤ sk tp a + 1 ∧ sk tp a + 1 ≤ _; omega, hW, hWr, by show dp + 1 ≤ dp + 1 ∧ dp + 1 ≤ 6; omega, fun _ => ⟨rfl, rfl⟩⟩ (by show 16 * ((tp.length : Int) - (sk tp a + 1)) + 3 ≤ (m : Int); omega)) (by omega)) (fun rv g1 hc9 => ?_)
        obtain ⟨z, sc1, rfl, hz, rfl, hs1, hM1, hev⟩ := hc9
        have hS1 : Same muF sc sc1 := Same.tr (by repeat (first | exact Same.rf | refine Same.us rfl ?_)) hs1
        refine RQ.seg 3 (pc' := 54) (L' := [some (.ref 80), some (.int (iI (lkm (lk tp a)))), some (.int (iI z)), none]) (st' := [.int (iI 93), .ref 80]) (g1 := (HW sc1 ar 81 oc rl ou tl, q)) rfl ?_
        refine RQ.callQ rfl rfl (CQ.up (m_takes81 (d := 0) (c := 93) ht hM1 (by omega)) (by omega)) (fun rv g1 hc9 => ?_)
        obtain ⟨rfl, sc2, rfl, hs2, hM2⟩ := hc9
        obtain ⟨hv_2, hA_2, hW_2, hWr_2, hD_2, hG_2⟩ := id hM2
        rw [show rd tp (m + 1) 0 dp a = rsq (rd tp m 2 (dp + 1) (sk tp a + 1)) (rex tp 93) by show rAtom tp (rd tp m) dp a = _; unfold rAtom; rw [if_neg hpa, if_pos h91, if_pos hd6]]
        rcases Decidable.em ((rsq (rd tp m 2 (dp + 1) (sk tp a + 1)) (rex tp 93)).1 = -1) with hr9 | hr9
        · skip
          rw [if_pos hr9]
          have hd2 : sc2 8012 = dp + 1 := (hG_2 hr9).2
          refine RQ.seg 6 (pc' := 69) (L' := [some (.ref 80), some (.int (iI (lkm (lk tp a)))), some (.int (iI z)), none]) (st' := [.int ((iI (sc2 8012)) - (iI 1)), .ref 80]) (g1 := (HW sc2 ar 81 oc rl ou tl, q)) rfl ?_
          refine RQ.to (L' := [some (.ref 80), some (.int (iI (lkm (lk tp a)))), some (.int (iI z)), none]) (st' := [.int (iI (sc2 8012 - 1)), .ref 80]) rfl (by simp only [iI_add, iI_sub, iI_mul, iI_neg]) ?_
          refine RQ.seg 2 (pc' := 73) (L' := [some (.ref 80), some (.int (iI (lkm (lk tp a)))), some (.int (iI z)), none]) (st' := [.int (iI z)]) (g1 := (HW (usc sc2 8012 (sc2 8012 - 1)) ar 81 oc rl ou tl, q)) rfl ?_
          refine RQ.ret rfl rfl ?_
          refine ⟨z, _, rfl, ⟨fun z9 => absurd z9 (by decide), hz.2⟩, rfl, hS1.tr (hs2.tr (by repeat (first | exact Same.rf | refine Same.us rfl ?_))), ⟨hv_2, hA_2, hW_2, hWr_2, by show dp ≤ sc2 8012 - 1 ∧ sc2 8012 - 1 ≤ 6; omega, fun _ => ⟨(hG_2 hr9).1, by show sc2 8012 - 1 = dp; omega⟩⟩, fun _ st => ?_⟩
          obtain ⟨i1, i2, i3⟩ := rsq_i hr9
          rw [i3, rex_c, List.append_nil]
          exact hev i1 st
        · skip
          rw [if_neg hr9]
          refine RQ.seg 2 (pc' := 61) (L' := [some (.ref 80), some (.int (iI (lkm (lk tp a)))), some (.int (iI z)), none]) (st' := [.int (iI 0)]) (g1 := (HW sc2 ar 81 oc rl ou tl, q)) rfl ?_
          refine RQ.ret rfl rfl ?_
          exact ⟨0, _, rfl, ⟨fun z => absurd z (by decide), by omega, by omega⟩, rfl, hS1.tr hs2, ⟨hv_2, hA_2, hW_2, hWr_2, ⟨by omega, hD_2.2⟩, fun z => absurd z hr9⟩, fun z => absurd z hr9⟩
      · refine RQ.call rfl rfl (CallR.up (d := 2) (m_goes81f (d := 0) (sc := usc sc 8010 (sk tp a)) (ar := ar) (dp := dp) g2 (by omega) (by show 0 ≤ sk tp a ∧ sk tp a ≤ 160; omega) hW hd6) (by omega)) ?_
        refine RQ.seg 2 (pc' := 45) (L' := [some (.ref 80), some (.int (iI (lkm (lk tp a)))), none, none]) (st' := [.int (iI 0)]) (g1 := (HW (usc (usc sc 8010 (sk tp a)) 8011 (sk tp a)) ar 81 oc rl ou tl, q)) rfl ?_
        refine RQ.ret rfl rfl ?_
        rw [show rd tp (m + 1) 0 dp a = rno tp a by show rAtom tp (rd tp m) dp a = _; unfold rAtom; rw [if_neg hpa, if_pos h91, if_neg hd6]]
        exact ⟨0, _, rfl, ⟨fun z => absurd z (by decide), by omega, by omega⟩, rfl, (by repeat (first | exact Same.rf | refine Same.us rfl ?_)), ⟨hv, by show 0 ≤ sk tp a ∧ sk tp a ≤ _; omega, rfl, by show -1 ≤ sk tp a ∧ sk tp a ≤ 160; omega, hDp, fun z => absurd (show sk tp a = -1 from z) (by omega)⟩, fun z => absurd (show sk tp a = -1 from z) (by omega)⟩
theorem ms82_0 {K : PK} {tp : List Int} {bg : Int} {ar : Nat → Int → Int} (ht : TpOK tp) (hL : LtOK ar) {m : Nat} (p2 : MC K tp bg 640 82 ar m 2 165 7 [] []) : MC K tp bg 640 82 ar (m + 1) 0 163 5 [] [] := by
  intro D u dp a sc oc rl ou tl q hdu hdp hD hM hF
  have ht1 := ht.1
  obtain ⟨hv, hA, hW, hWr, hDp, hG⟩ := id hM
  obtain ⟨g1, g2⟩ := hG rfl
  replace g1 : sc 8010 = a := g1
  replace hW : sc 8011 = -1 := hW
  have hFu : 16 * ((tp.length : Int) - a) + 1 ≤ ((m + 1 : Nat) : Int) := hF
  have hsk := sk_r (tp := tp) (p := a) (by omega)
  have hlk : 0 ≤ lk tp a ∧ lk tp a ≤ 255 := tch_r ht (sk tp a)
  have hlm := lkm_r hlk
  have hnm := nmR_r (tp := tp) (k := 4) (a := a) (by omega) (by omega)
  have hpr := pr_r (lk tp a)
  obtain ⟨hv1, hv2, hv3, hv4⟩ := id hv
  refine CQ.of (own := 11) (n := 4) (ini := false) (rt := (some .int)) (cd := cd163) (by decide +kernel) rfl (by decide +kernel) rfl (Nat.le_of_ble_eq_true rfl) ?_
  refine RQ.seg 1 (pc' := 1) (L' := [some (.ref 80), none, none, none]) (st' := [.ref 80]) (g1 := (HW sc ar 82 oc rl ou tl, q)) rfl ?_
  refine RQ.call rfl rfl (CallR.up (d := 1) (m_look82 (d := 0) (sc := sc) (ar := ar) (a := a) ht hv g1 (by omega)) (by omega)) ?_
  refine RQ.seg 3 (pc' := 8) (L' := [some (.ref 80), some (.int (iI (lkm (lk tp a)))), none, none]) (st' := [.int (iI (lkm (lk tp a))), .retAddr 21]) (g1 := (HW (usc sc 8010 (sk tp a)) ar 82 oc rl ou tl, q)) rfl ?_
  rcases Decidable.em (pr (lk tp a) ≠ -1) with hpa | hpa
  · skip
    obtain ⟨hpk1, hpk2⟩ := pr_k hpa
    have hlc : lkm (lk tp a) = lk tp a := hlm.2.2.2.1 (by omega)
    have hps := lk_in (tp := tp) (a := a) (by omega) (by omega)
    have hLt := hL (pr (lk tp a)) (by omega) (by omega)
    rw [hpk2] at hLt
    refine RQ.call rfl rfl (CallR.up (d := 5) (m_among_rt (d := 0) (c := lkm (lk tp a)) (by omega) (by rw [pr_m]; exact hpa)) (by omega)) ?_
    refine RQ.seg 6 (pc' := 21) (L' := [some (.ref 80), some (.int (iI (lkm (lk tp a)))), none, none]) (st' := [.int ((iI (sk tp a)) + (iI 1)), .ref 80]) (g1 := (HW (usc sc 8010 (sk tp a)) ar 82 oc rl ou tl, q)) rfl ?_
    refine RQ.to (L' := [some (.ref 80), some (.int (iI (lkm (lk tp a)))), none, none]) (st' := [.int (iI (sk tp a + 1)), .ref 80]) rfl (by simp only [iI_add, iI_sub, iI_mul, iI_neg]) ?_
    refine RQ.seg 4 (pc' := 29) (L' := [some (.ref 80), some (.int (iI (lkm (lk tp a)))), none, none]) (st' := [.int (iI (lkm (lk tp a))), .ref 84]) (g1 := (HW (usc sc 8010 (sk tp a + 1)) ar 82 oc rl ou tl, q)) rfl ?_
    refine RQ.iald (z := (lkm (lk tp a))) rfl rfl rfl (by omega) (by decide) ?_
    refine RQ.ret rfl rfl ?_
    rw [show rd tp (m + 1) 0 dp a = (-1, sk tp a + 1, [-13 - pr (lk tp a)]) by show rAtom tp (rd tp m) dp a = _; unfold rAtom; rw [if_pos hpa]]
    refine ⟨_, _, rfl, ⟨fun z9 => absurd z9 (by decide), by rw [hlc]; exact hLt⟩, rfl, (by repeat (first | exact Same.rf | refine Same.us rfl ?_)), ⟨hv, by show 0 ≤ sk tp a + 1 ∧ sk tp a + 1 ≤ _; omega, hW, hWr, hDp, fun _ => ⟨rfl, g2⟩⟩, fun _ st => ?_⟩
    rw [hlc]
    refine (ev_let (by omega) st).trans ?_
    show ar 84 (kc3 (pr (lk tp a))) :: st = _; rw [hpk2]
  · skip
    refine RQ.call rfl rfl (CallR.up (d := 5) (m_among_rf (d := 0) (c := lkm (lk tp a)) (by omega) (by rw [pr_m]; exact hpa)) (by omega)) ?_
    refine RQ.seg 3 (pc' := 34) (L' := [some (.ref 80), some (.int (iI (lkm (lk tp a)))), none, none]) (st' := [.int (iI 91), .int (iI (lkm (lk tp a)))]) (g1 := (HW (usc sc 8010 (sk tp a)) ar 82 oc rl ou tl, q)) rfl ?_
    refine RQ.if2 (a := (lkm (lk tp a))) (b := 91) rfl rfl rfl rfl (by omega) (by omega) (fun (h1 : lkm (lk tp a) ≠ 91) => ?_) (fun (h1 : ¬ lkm (lk tp a) ≠ 91) => ?_)
    · skip
      refine RQ.seg 1 (pc' := 75) (L' := [some (.ref 80), some (.int (iI (lkm (lk tp a)))), none, none]) (st' := [.ref 80]) (g1 := (HW (usc sc 8010 (sk tp a)) ar 82 oc rl ou tl, q)) rfl ?_
      rcases Decidable.em (dig (tch tp (sk tp a))) with hdg | hdg
      · skip
        refine RQ.call rfl rfl (CallR.up (d := 1) (m_dig82t (d := 0) (sc := usc sc 8010 (sk tp a)) (ar := ar) (a := sk tp a) ht hv rfl (by omega) hdg) (by omega)) ?_
        refine RQ.seg 5 (pc' := 90) (L' := [some (.ref 80), some (.int (iI (lkm (lk tp a)))), some (.int (iI 0)), some (.int (iI 0))]) (st' := []) (g1 := (HW (usc sc 8010 (sk tp a)) ar 82 oc rl ou tl, q)) rfl ?_
        have en : nmR tp 4 a = (if dig (tch tp (nmn tp 4 (sk tp a) 0).2) then (nmn tp 4 (sk tp a) 0).2 else -1, (nmn tp 4 (sk tp a) 0).1, (nmn tp 4 (sk tp a) 0).2) := by unfold nmR; rw [if_pos hdg]
        rw [show rd tp (m + 1) 0 dp a = ((nmR tp 4 a).1, (nmR tp 4 a).2.2, [(nmR tp 4 a).2.1]) by show rAtom tp (rd tp m) dp a = _; unfold rAtom; rw [if_neg hpa, if_neg (by omega)]]
        rw [en] at hnm ⊢
        refine RQ.up9 (m_dg82_l (d := D - 1) ht hv hW 4 0 (sk tp a) 0 (by omega) (by omega) (by omega) ⟨by omega, by omega, by omega, by omega, by omega, by omega⟩ (fun hn => ?_) (fun hn => ?_)) (by omega)
        · rw [if_neg hn] at hnm ⊢
          dsimp only at hnm
          exact ⟨_, _, rfl, ⟨fun z => absurd z (by decide), by omega, by omega⟩, rfl, (by repeat (first | exact Same.rf | refine Same.us rfl ?_)), ⟨hv, by show 0 ≤ (nmn tp 4 (sk tp a) 0).2 ∧ (nmn tp 4 (sk tp a) 0).2 ≤ _; omega, hW, hWr, hDp, fun _ => ⟨rfl, g2⟩⟩, fun _ st => ev_num (v := (nmn tp 4 (sk tp a) 0).1) (by omega) st⟩
        · rw [if_pos hn] at hnm ⊢
          dsimp only at hnm
          exact ⟨0, _, rfl, ⟨fun z => absurd z (by decide), by omega, by omega⟩, rfl, (by repeat (first | exact Same.rf | refine Same.us rfl ?_)), ⟨hv, by show 0 ≤ (nmn tp 4 (sk tp a) 0).2 ∧ (nmn tp 4 (sk tp a) 0).2 ≤ _; omega, rfl, by show -1 ≤ (nmn tp 4 (sk tp a) 0).2 ∧ (nmn tp 4 (sk tp a) 0).2 ≤ 160; omega, hDp, fun z => absurd (show (nmn tp 4 (sk tp a) 0).2 = -1 from z) (by omega)⟩, fun z => absurd (show (nmn tp 4 (sk tp a) 0).2 = -1 from z) (by omega)⟩
      · skip
        refine RQ.call rfl rfl (CallR.up (d := 1) (m_dig82f (d := 0) (sc := usc sc 8010 (sk tp a)) (ar := ar) (a := sk tp a) ht hv rfl (by omega) hdg) (by omega)) ?_
        refine RQ.seg 2 (pc' := 82) (L' := [some (.ref 80), some (.int (iI (lkm (lk tp a)))), none, none]) (st' := [.ref 80]) (g1 := (HW (usc sc 8010 (sk tp a)) ar 82 oc rl ou tl, q)) rfl ?_
        have hcall := m_fails (K := K) (d := 0) (tx := 82) (oc := oc) (rl := rl) (ou := ou) (tl := tl) (q := q) (sc := usc sc 8010 (sk tp a)) (ar := ar) (by show -1 ≤ sc 8011 ∧ sc 8011 ≤ 200; omega)
        rw [show (if (usc sc 8010 (sk tp a)) 8011 = -1 then (usc sc 8010 (sk tp a)) 8010 else (usc sc 8010 (sk tp a)) 8011) = sk tp a from if_pos hW] at hcall
        refine RQ.call rfl rfl (CallR.up hcall (by omega)) ?_
        refine RQ.seg 5 (pc' := 90) (L' := [some (.ref 80), some (.int (iI (lkm (lk tp a)))), some (.int (iI 0)), some (.int (iI 0))]) (st' := []) (g1 := (HW (usc (usc sc 8010 (sk tp a)) 8011 (sk tp a)) ar 82 oc rl ou tl, q)) rfl ?_
        refine RQ.seg 1 (pc' := 91) (L' := [some (.ref 80), some (.int (iI (lkm (lk tp a)))), some (.int (iI 0)), some (.int (iI 0))]) (st' := [.ref 80]) (g1 := (HW (usc (usc sc 8010 (sk tp a)) 8011 (sk tp a)) ar 82 oc rl ou tl, q)) rfl ?_
        refine RQ.call rfl rfl (CallR.up (d := 1) (m_dig82f (d := 0) (sc := usc (usc sc 8010 (sk tp a)) 8011 (sk tp a)) (ar := ar) (a := sk tp a) ht hv rfl (by omega) hdg) (by omega)) ?_
        refine RQ.seg 2 (pc' := 157) (L' := [some (.ref 80), some (.int (iI (lkm (lk tp a)))), some (.int (iI 0)), some (.int (iI 0))]) (st' := [.int (iI 0)]) (g1 := (HW (usc (usc sc 8010 (sk tp a)) 8011 (sk tp a)) ar 82 oc rl ou tl, q)) rfl ?_
        refine RQ.ret rfl rfl ?_
        rw [show rd tp (m + 1) 0 dp a = ((nmR tp 4 a).1, (nmR tp 4 a).2.2, [(nmR tp 4 a).2.1]) by show rAtom tp (rd tp m) dp a = _; unfold rAtom; rw [if_neg hpa, if_neg (by omega)]]
        rw [show nmR tp 4 a = (sk tp a, 0, sk tp a) by unfold nmR; rw [if_neg hdg]]
        exact ⟨0, _, rfl, ⟨fun z => absurd z (by decide), by omega, by omega⟩, rfl, (by repeat (first | exact Same.rf | refine Same.us rfl ?_)), ⟨hv, by show 0 ≤ sk tp a ∧ sk tp a ≤ _; omega, rfl, by show -1 ≤ sk tp a ∧ sk tp a ≤ 160; omega, hDp, fun z => absurd (show sk tp a = -1 from z) (by omega)⟩, fun z => absurd (show sk tp a = -1 from z) (by omega)⟩
    · skip
      refine RQ.seg 1 (pc' := 38) (L' := [some (.ref 80), some (.int (iI (lkm (lk tp a)))), none, none]) (st' := [.ref 80]) (g1 := (HW (usc sc 8010 (sk tp a)) ar 82 oc rl ou tl, q)) rfl ?_
      have h91 : lk tp a = 91 := by omega
      have hps := lk_in (tp := tp) (a := a) (by omega) (by omega)
      rcases Decidable.em (dp < 6) with hd6 | hd6
      · refine RQ.call rfl rfl (CallR.up (d := 2) (m_goes82t (d := 0) (sc := usc sc 8010 (sk tp a)) (ar := ar) (dp := dp) g2 (by omega) (by show 0 ≤ sk tp a ∧ sk tp a ≤ 160; omega) hW hd6) (by omega)) ?_
        refine RQ.hp (g1 := (HW (usc (usc sc 8010 (sk tp a + 1)) 8012 (dp + 1)) ar 82 oc rl ou tl, q)) (HW_e (by rw [usc_uu _ 8010 _ _]; try rfl) rfl) ?_
        refine RQ.seg 2 (pc' := 47) (L' := [some (.ref 80), some (.int (iI (lkm (lk tp a)))), none, none]) (st' := [.ref 80]) (g1 := (HW (usc (usc sc 8010 (sk tp a + 1)) 8012 (dp + 1)) ar 82 oc rl ou tl, q)) rfl ?_
        refine RQ.callQ rfl rfl (CQ.up (p2 (D - 1) (u - 1) (dp + 1) (sk tp a + 1) (usc (usc sc 8010 (sk tp a + 1)) 8012 (dp + 1)) oc rl ou tl q (by omega) (by omega) (by omega) ⟨hv, by show 0 ≤ sk tp a + 1 ∧ sk tp a + 1 ≤ _; omega, hW, hWr, by show dp + 1 ≤ dp + 1 ∧ dp + 1 ≤ 6; omega, fun _ => ⟨rfl, rfl⟩⟩ (by show 16 * ((tp.length : Int) - (sk tp a + 1)) + 3 ≤ (m : Int); omega)) (by omega)) (fun rv g1 hc9 => ?_)
        obtain ⟨z, sc1, rfl, hz, rfl, hs1, hM1, hev⟩ := hc9
        have hS1 : Same muF sc sc1 := Same.tr (by repeat (first | exact Same.rf | refine Same.us rfl ?_)) hs1
        refine RQ.seg 3 (pc' := 54) (L' := [some (.ref 80), some (.int (iI (lkm (lk tp a)))), some (.int (iI z)), none]) (st' := [.int (iI 93), .ref 80]) (g1 := (HW sc1 ar 82 oc rl ou tl, q)) rfl ?_
        refine RQ.callQ rfl rfl (CQ.up (m_takes82 (d := 0) (c := 93) ht hM1 (by omega)) (by omega)) (fun rv g1 hc9 => ?_)
        obtain ⟨rfl, sc2, rfl, hs2, hM2⟩ := hc9
        obtain ⟨hv_2, hA_2, hW_2, hWr_2, hD_2, hG_2⟩ := id hM2
        rw [show rd tp (m + 1) 0 dp a = rsq (rd tp m 2 (dp + 1) (sk tp a + 1)) (rex tp 93) by show rAtom tp (rd tp m) dp a = _; unfold rAtom; rw [if_neg hpa, if_pos h91, if_pos hd6]]
        rcases Decidable.em ((rsq (rd tp m 2 (dp + 1) (sk tp a + 1)) (rex tp 93)).1 = -1) with hr9 | hr9
        · skip
          rw [if_pos hr9]
          have hd2 : sc2 8012 = dp + 1 := (hG_2 hr9).2
          refine RQ.seg 6 (pc' := 69) (L' := [some (.ref 80), some (.int (iI (lkm (lk tp a)))), some (.int (iI z)), none]) (st' := [.int ((iI (sc2 8012)) - (iI 1)), .ref 80]) (g1 := (HW sc2 ar 82 oc rl ou tl, q)) rfl ?_
          refine RQ.to (L' := [some (.ref 80), some (.int (iI (lkm (lk tp a)))), some (.int (iI z)), none]) (st' := [.int (iI (sc2 8012 - 1)), .ref 80]) rfl (by simp only [iI_add, iI_sub, iI_mul, iI_neg]) ?_
          refine RQ.seg 2 (pc' := 73) (L' := [some (.ref 80), some (.int (iI (lkm (lk tp a)))), some (.int (iI z)), none]) (st' := [.int (iI z)]) (g1 := (HW (usc sc2 8012 (sc2 8012 - 1)) ar 82 oc rl ou tl, q)) rfl ?_
          refine RQ.ret rfl rfl ?_
          refine ⟨z, _, rfl, ⟨fun z9 => absurd z9 (by decide), hz.2⟩, rfl, hS1.tr (hs2.tr (by repeat (first | exact Same.rf | refine Same.us rfl ?_))), ⟨hv_2, hA_2, hW_2, hWr_2, by show dp ≤ sc2 8012 - 1 ∧ sc2 8012 - 1 ≤ 6; omega, fun _ => ⟨(hG_2 hr9).1, by show sc2 8012 - 1 = dp; omega⟩⟩, fun _ st => ?_⟩
          obtain ⟨i1, i2, i3⟩ := rsq_i hr9
          rw [i3, rex_c, List.append_nil]
          exact hev i1 st
        · skip
          rw [if_neg hr9]
          refine RQ.seg 2 (pc' := 61) (L' := [some (.ref 80), some (.int (iI (lkm (lk tp a)))), some (.int (iI z)), none]) (st' := [.int (iI 0)]) (g1 := (HW sc2 ar 82 oc rl ou tl, q)) rfl ?_
          refine RQ.ret rfl rfl ?_
          exact ⟨0, _, rfl, ⟨fun z => absurd z (by decide), by omega, by omega⟩, rfl, hS1.tr hs2, ⟨hv_2, hA_2, hW_2, hWr_2, ⟨by omega, hD_2.2⟩, fun z => absurd z hr9⟩, fun z => absurd z hr9⟩
      · refine RQ.call rfl rfl (CallR.up (d := 2) (m_goes82f (d := 0) (sc := usc sc 8010 (sk tp a)) (ar := ar) (dp := dp) g2 (by omega) (by show 0 ≤ sk tp a ∧ sk tp a ≤ 160; omega) hW hd6) (by omega)) ?_
        refine RQ.seg 2 (pc' := 45) (L' := [some (.ref 80), some (.int (iI (lkm (lk tp a)))), none, none]) (st' := [.int (iI 0)]) (g1 := (HW (usc (usc sc 8010 (sk tp a)) 8011 (sk tp a)) ar 82 oc rl ou tl, q)) rfl ?_
        refine RQ.ret rfl rfl ?_
        rw [show rd tp (m + 1) 0 dp a = rno tp a by show rAtom tp (rd tp m) dp a = _; unfold rAtom; rw [if_neg hpa, if_pos h91, if_neg hd6]]
        exact ⟨0, _, rfl, ⟨fun z => absurd z (by decide), by omega, by omega⟩, rfl, (by repeat (first | exact Same.rf | refine Same.us rfl ?_)), ⟨hv, by show 0 ≤ sk tp a ∧ sk tp a ≤ _; omega, rfl, by show -1 ≤ sk tp a ∧ sk tp a ≤ 160; omega, hDp, fun z => absurd (show sk tp a = -1 from z) (by omega)⟩, fun z => absurd (show sk tp a = -1 from z) (by omega)⟩
