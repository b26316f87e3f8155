/-! the reference reads a rule: units, parts, conditions, by wip/tools -/
/-! the reference reads a rule: units, parts, conditions -/
theorem ev_not {L : Int → Int} {z : Int} {st : List Int} : ev L [-8] (z :: st) = (1 - z) :: st := rfl
theorem mc81_8 {K : PK} {tp : List Int} {bg : Int} {ar : Nat → Int → Int} (ht : TpOK tp) {m : Nat} (l8 : ML8_81 K tp bg ar m) {v : Int} (rv : -1000000 ≤ v ∧ v ≤ 1000000) : MC K tp bg 160 81 ar m 8 167 8 [.int (iI 1), .int (iI v)] [v] := by
  intro D u dp a sc oc rl ou tl q hdu hdp hD hM hF
  refine CQ.of (own := 11) (n := 6) (ini := false) (rt := (some .boolean)) (cd := cd167) (by decide +kernel) rfl (by decide +kernel) rfl (Nat.le_of_ble_eq_true rfl) ?_
  refine RQ.seg 5 (pc' := 13) (L' := [some (.ref 80), some (.int (iI 1)), some (.int (iI v)), some (.int (iI v)), none, none]) (st' := []) (g1 := (HW sc ar 81 oc rl ou tl, q)) rfl ?_
  exact l8 D u dp a v 1 v none none sc oc rl ou tl q hdu hdp hD hM hF rv
theorem mc81_28 {K : PK} {tp : List Int} {bg : Int} {ar : Nat → Int → Int} (ht : TpOK tp) {m : Nat} (p2 : MC K tp bg 160 81 ar m 2 165 7 [] []) (l8 : ML8_81 K tp bg ar m) : ∀ (D u : Nat) (dp a : Int) (sc : Nat → Int) (oc : Nat) (rl : Nat → Option Nat) (ou : Nat → Int64) (tl : List PO) (q : Nat × Nat), dp + u = 6 → 0 ≤ dp → 6 * u + 8 ≤ D → MX tp bg 160 (-1, a, []) dp sc (ar 81) → 16 * ((tp.length : Int) - a) + 3 ≤ (m : Int) → CQ K (D + 1) 167 [.ref 80, .int (iI 0), .int (iI 0)] (HW sc ar 81 oc rl ou tl, q) (QM tp bg 160 81 8 (rsq (rd tp m 2 dp a) (rd tp m 8 dp)) dp [] sc ar oc rl ou tl q) := by
  intro D u dp a sc oc rl ou tl q hdu hdp hD hM hF
  have ht1 := ht.1
  obtain ⟨hv, hA, hW, hWr, hDp, hG⟩ := id hM
  obtain ⟨g1, g2⟩ := hG rfl
  replace g1 : sc 8010 = a := g1
  replace hW : sc 8011 = -1 := hW
  refine CQ.of (own := 11) (n := 6) (ini := false) (rt := (some .boolean)) (cd := cd167) (by decide +kernel) rfl (by decide +kernel) rfl (Nat.le_of_ble_eq_true rfl) ?_
  refine RQ.seg 3 (pc' := 9) (L' := [some (.ref 80), some (.int (iI 0)), some (.int (iI 0)), none, none, none]) (st' := [.ref 80]) (g1 := (HW sc ar 81 oc rl ou tl, q)) rfl ?_
  refine RQ.callQ rfl rfl (CQ.up (p2 (D - 1) u dp a sc oc rl ou tl q hdu hdp (by omega) hM hF) (by omega)) (fun rv9 g9 hc9 => ?_)
  obtain ⟨z, sc1, rfl, hz, rfl, hs1, hM1, hev⟩ := hc9
  have hz1 := hz.2
  have hS1 : Same muF sc sc1 := Same.tr (by repeat (first | exact Same.rf | refine Same.us rfl ?_)) hs1
  obtain ⟨hv_1, hA_1, hW_1, hWr_1, hD_1, hG_1⟩ := id hM1
  refine RQ.seg 1 (pc' := 13) (L' := [some (.ref 80), some (.int (iI 0)), some (.int (iI 0)), some (.int (iI z)), none, none]) (st' := []) (g1 := (HW sc1 ar 81 oc rl ou tl, q)) rfl ?_
  rcases Decidable.em ((rd tp m 2 dp a).1 = -1) with he1 | hE1
  · obtain ⟨k1, k2⟩ := hG_1 he1
    have hg : a + 1 ≤ (rd tp m 2 dp a).2.1 ∧ _ := ((rd_ok (tp := tp) m).at 2 dp (a := a) (by omega)).2 he1
    refine RQ.im (l8 D u dp (rd tp m 2 dp a).2.1 z 0 0 none none sc1 oc rl ou tl q hdu hdp hD ⟨hv_1, hA_1, hW_1.trans he1, by show (-1 : Int) ≤ -1 ∧ (-1 : Int) ≤ 160; omega, hD_1, fun _ => ⟨k1, k2⟩⟩ (by show 16 * ((tp.length : Int) - (rd tp m 2 dp a).2.1) + 1 ≤ (m : Int); omega) hz1) (fun vv gg hq => ?_)
    obtain ⟨z9, sc9, e9, hz9, e8, hs9, hM9, hev9⟩ := hq
    rw [rsq_p he1]
    refine ⟨z9, sc9, e9, hz9, e8, hs1.tr hs9, hM9, fun zz st => ?_⟩
    show ev _ ((rd tp m 2 dp a).2.2 ++ (rd tp m 8 dp (rd tp m 2 dp a).2.1).2.2) st = z9 :: st
    rw [ev_app, show ev (fun k => ar 84 (kc3 k)) (rd tp m 2 dp a).2.2 st = z :: st from hev he1 st]
    exact hev9 zz st
  · rw [rsq_b hE1]
    have hwn : ¬ sc1 8011 = -1 := by omega
    refine RQ.seg 3 (pc' := 18) (L' := [some (.ref 80), some (.int (iI 0)), some (.int (iI 0)), some (.int (iI z)), none, none]) (st' := [.int (iI (-1)), .int (iI (sc1 8011))]) (g1 := (HW sc1 ar 81 oc rl ou tl, q)) rfl ?_
    refine RQ.if2 (a := (sc1 8011)) (b := (-1)) rfl rfl rfl rfl (by omega) (by omega) (fun (q : sc1 8011 = (-1)) => absurd q (show ¬ sc1 8011 = (-1) from by omega)) (fun _ => ?_)
    refine RQ.seg 1 (pc' := 22) (L' := [some (.ref 80), some (.int (iI 0)), some (.int (iI 0)), some (.int (iI z)), none, none]) (st' := [.int (iI 0)]) (g1 := (HW sc1 ar 81 oc rl ou tl, q)) rfl ?_
    refine RQ.ret rfl rfl ?_
    exact ⟨0, sc1, rfl, ⟨fun _ => by omega, by omega, by omega⟩, rfl, hs1, hM1, fun z9 => absurd z9 hE1⟩
theorem ms81_3 {K : PK} {tp : List Int} {bg : Int} {ar : Nat → Int → Int} (ht : TpOK tp) {m : Nat} (p2 : MC K tp bg 160 81 ar m 2 165 7 [] []) (l8 : ML8_81 K tp bg ar m) (p3 : MC K tp bg 160 81 ar m 3 168 9 [] []) (p5 : MC K tp bg 160 81 ar m 5 170 11 [.int (iI 0), .int (iI 0)] []) : MC K tp bg 160 81 ar (m + 1) 3 168 9 [] [] := by
  intro D u dp a sc oc rl ou tl q hdu hdp hD hM hF
  have ht1 := ht.1
  obtain ⟨hv, hA, hW, hWr, hDp, hG⟩ := id hM
  obtain ⟨g1, g2⟩ := hG rfl
  replace g1 : sc 8010 = a := g1
  replace hW : sc 8011 = -1 := hW
  have hFu : 16 * ((tp.length : Int) - a) + 4 ≤ ((m + 1 : Nat) : Int) := hF
  have hsk := sk_r (tp := tp) (p := a) (by omega)
  have hlk : 0 ≤ lk tp a ∧ lk tp a ≤ 255 := tch_r ht (sk tp a)
  have hlm := lkm_r hlk
  refine CQ.of (own := 11) (n := 3) (ini := false) (rt := (some .boolean)) (cd := cd168) (by decide +kernel) rfl (by decide +kernel) rfl (Nat.le_of_ble_eq_true rfl) ?_
  refine RQ.seg 1 (pc' := 1) (L' := [some (.ref 80), none, none]) (st' := [.ref 80]) (g1 := (HW sc ar 81 oc rl ou tl, q)) rfl ?_
  refine RQ.call rfl rfl (CallR.up (d := 1) (m_look81 (d := 0) (sc := sc) (ar := ar) (a := a) ht hv g1 (by omega)) (by omega)) ?_
  refine RQ.seg 3 (pc' := 8) (L' := [some (.ref 80), some (.int (iI (lkm (lk tp a)))), none]) (st' := [.int (iI 33), .int (iI (lkm (lk tp a)))]) (g1 := (HW (usc sc 8010 (sk tp a)) ar 81 oc rl ou tl, q)) rfl ?_
  refine RQ.if2 (a := (lkm (lk tp a))) (b := 33) rfl rfl rfl rfl (by omega) (by omega) (fun (h1 : lkm (lk tp a) ≠ 33) => ?_) (fun (h1 : ¬ lkm (lk tp a) ≠ 33) => ?_)
  · skip
    refine RQ.seg 2 (pc' := 48) (L' := [some (.ref 80), some (.int (iI (lkm (lk tp a)))), none]) (st' := [.int (iI 40), .int (iI (lkm (lk tp a)))]) (g1 := (HW (usc sc 8010 (sk tp a)) ar 81 oc rl ou tl, q)) rfl ?_
    refine RQ.if2 (a := (lkm (lk tp a))) (b := 40) rfl rfl rfl rfl (by omega) (by omega) (fun (h2 : lkm (lk tp a) ≠ 40) => ?_) (fun (h2 : ¬ lkm (lk tp a) ≠ 40) => ?_)
    · skip
      refine RQ.seg 3 (pc' := 93) (L' := [some (.ref 80), some (.int (iI (lkm (lk tp a)))), none]) (st' := [.int (iI 0), .int (iI 0), .ref 80]) (g1 := (HW (usc sc 8010 (sk tp a)) ar 81 oc rl ou tl, q)) rfl ?_
      refine RQ.callQ rfl rfl (CQ.up (mc81_28 ht p2 l8 (D - 1) u dp (sk tp a) (usc sc 8010 (sk tp a)) oc rl ou tl q hdu hdp (by omega) ⟨hv, by show 0 ≤ sk tp a ∧ sk tp a ≤ _; omega, hW, hWr, hDp, fun _ => ⟨rfl, g2⟩⟩ (by omega)) (by omega)) (fun rv9 g9 hc9 => ?_)
      obtain ⟨z, sc1, rfl, hz, rfl, hs1, hM1, hev⟩ := hc9
      have hz1 := hz.2
      have hS1 : Same muF sc sc1 := Same.tr (by repeat (first | exact Same.rf | refine Same.us rfl ?_)) hs1
      obtain ⟨hv_1, hA_1, hW_1, hWr_1, hD_1, hG_1⟩ := id hM1
      rcases (show z = 0 ∨ z = 1 by have := hz.1 rfl; omega) with rfl | rfl
      · skip
        refine RQ.ret rfl rfl ?_
        rw [show rd tp (m + 1) 3 dp a = rsq (rd tp m 2 dp a) (rd tp m 8 dp) by show rUnit tp (rd tp m) dp a = _; unfold rUnit; rw [if_neg (by omega), if_neg (by omega)]]
        rw [rd_sk] at hev hM1
        exact ⟨0, sc1, rfl, ⟨fun _ => by omega, by omega, by omega⟩, rfl, hS1, hM1, hev⟩
      · skip
        refine RQ.ret rfl rfl ?_
        rw [show rd tp (m + 1) 3 dp a = rsq (rd tp m 2 dp a) (rd tp m 8 dp) by show rUnit tp (rd tp m) dp a = _; unfold rUnit; rw [if_neg (by omega), if_neg (by omega)]]
        rw [rd_sk] at hev hM1
        exact ⟨1, sc1, rfl, ⟨fun _ => by omega, by omega, by omega⟩, rfl, hS1, hM1, hev⟩
    · skip
      refine RQ.seg 1 (pc' := 52) (L' := [some (.ref 80), some (.int (iI (lkm (lk tp a)))), none]) (st' := [.ref 80]) (g1 := (HW (usc sc 8010 (sk tp a)) ar 81 oc rl ou tl, q)) rfl ?_
      have hps := lk_in (tp := tp) (a := a) (by omega) (by omega)
      rcases Decidable.em (dp < 6) with hd6 | hd6
      · refine RQ.call rfl rfl (CallR.up (d := 2) (m_goes81t (d := 0) (sc := usc sc 8010 (sk tp a)) (ar := ar) (dp := dp) g2 (by omega) (by show 0 ≤ sk tp a ∧ sk tp a ≤ 160; omega) hW hd6) (by omega)) ?_
        refine RQ.hp (g1 := (HW (usc (usc sc 8010 (sk tp a + 1)) 8012 (dp + 1)) ar 81 oc rl ou tl, q)) (HW_e (by rw [usc_uu _ 8010 _ _]; try rfl) rfl) ?_
        refine RQ.seg 4 (pc' := 63) (L' := [some (.ref 80), some (.int (iI (lkm (lk tp a)))), none]) (st' := [.int (iI 0), .int (iI 0), .ref 80]) (g1 := (HW (usc (usc sc 8010 (sk tp a + 1)) 8012 (dp + 1)) ar 81 oc rl ou tl, q)) rfl ?_
        refine RQ.callQ rfl rfl (CQ.up (p5 (D - 1) (u - 1) (dp + 1) (sk tp a + 1) (usc (usc sc 8010 (sk tp a + 1)) 8012 (dp + 1)) oc rl ou tl q (by omega) (by omega) (by omega) ⟨hv, by show 0 ≤ sk tp a + 1 ∧ sk tp a + 1 ≤ _; omega, hW, hWr, by show dp + 1 ≤ dp + 1 ∧ dp + 1 ≤ 6; omega, fun _ => ⟨rfl, rfl⟩⟩ (by show 16 * ((tp.length : Int) - (sk tp a + 1)) + 6 ≤ (m : Int); omega)) (by omega)) (fun rv9 g9 hc9 => ?_)
        obtain ⟨z, sc1, rfl, hz, rfl, hs1, hM1, hev⟩ := hc9
        have hz1 := hz.2
        have hS1 : Same muF sc sc1 := Same.tr (by repeat (first | exact Same.rf | refine Same.us rfl ?_)) hs1
        obtain ⟨hv_1, hA_1, hW_1, hWr_1, hD_1, hG_1⟩ := id hM1
        rcases (show z = 0 ∨ z = 1 by have := hz.1 rfl; omega) with rfl | rfl
        · skip
          refine RQ.seg 3 (pc' := 70) (L' := [some (.ref 80), some (.int (iI (lkm (lk tp a)))), some (.int (iI 0))]) (st' := [.int (iI 41), .ref 80]) (g1 := (HW sc1 ar 81 oc rl ou tl, q)) rfl ?_
          refine RQ.callQ rfl rfl (CQ.up (m_takes81 (d := 0) (c := 41) ht hM1 (by omega)) (by omega)) (fun rv9 g9 hc8 => ?_)
          obtain ⟨rfl, sc2, rfl, hs2, hM2⟩ := hc8
          obtain ⟨hv_2, hA_2, hW_2, hWr_2, hD_2, hG_2⟩ := id hM2
          rw [show rd tp (m + 1) 3 dp a = rsq (rd tp m 5 (dp + 1) (sk tp a + 1)) (rex tp 41) by show rUnit tp (rd tp m) dp a = _; unfold rUnit; rw [if_neg (by omega), if_pos (by omega), if_pos hd6]]
          rcases Decidable.em ((rsq (rd tp m 5 (dp + 1) (sk tp a + 1)) (rex tp 41)).1 = -1) with hr9 | hr9
          · skip
            rw [if_pos hr9]
            have hd2 : sc2 8012 = dp + 1 := (hG_2 hr9).2
            refine RQ.seg 6 (pc' := 85) (L' := [some (.ref 80), some (.int (iI (lkm (lk tp a)))), some (.int (iI 0))]) (st' := [.int ((iI (sc2 8012)) - (iI 1)), .ref 80]) (g1 := (HW sc2 ar 81 oc rl ou tl, q)) rfl ?_
            refine RQ.to (L' := [some (.ref 80), some (.int (iI (lkm (lk tp a)))), some (.int (iI 0))]) (st' := [.int (iI (sc2 8012 - 1)), .ref 80]) rfl (by simp only [iI_add, iI_sub, iI_mul, iI_neg]) ?_
            refine RQ.seg 2 (pc' := 89) (L' := [some (.ref 80), some (.int (iI (lkm (lk tp a)))), some (.int (iI 0))]) (st' := [.int (iI 0)]) (g1 := (HW (usc sc2 8012 (sc2 8012 - 1)) ar 81 oc rl ou tl, q)) rfl ?_
            refine RQ.ret rfl rfl ?_
            refine ⟨0, _, rfl, ⟨fun _ => by omega, by omega, by omega⟩, rfl, hS1.tr (hs2.tr (by repeat (first | exact Same.rf | refine Same.us rfl ?_))), ⟨hv_2, hA_2, hW_2, hWr_2, by show dp ≤ sc2 8012 - 1 ∧ sc2 8012 - 1 ≤ 6; omega, fun _ => ⟨(hG_2 hr9).1, by show sc2 8012 - 1 = dp; omega⟩⟩, fun _ st => ?_⟩
            obtain ⟨i1, i2, i3⟩ := rsq_i hr9
            rw [i3, rex_c, List.append_nil]
            exact hev i1 st
          · skip
            rw [if_neg hr9]
            refine RQ.seg 2 (pc' := 77) (L' := [some (.ref 80), some (.int (iI (lkm (lk tp a)))), some (.int (iI 0))]) (st' := [.int (iI 0)]) (g1 := (HW sc2 ar 81 oc rl ou tl, q)) rfl ?_
            refine RQ.ret rfl rfl ?_
            exact ⟨0, _, rfl, ⟨fun _ => by omega, by omega, by omega⟩, rfl, hS1.tr hs2, ⟨hv_2, hA_2, hW_2, hWr_2, ⟨by omega, hD_2.2⟩, fun z => absurd z hr9⟩, fun z => absurd z hr9⟩
        · skip
          refine RQ.seg 3 (pc' := 70) (L' := [some (.ref 80), some (.int (iI (lkm (lk tp a)))), some (.int (iI 1))]) (st' := [.int (iI 41), .ref 80]) (g1 := (HW sc1 ar 81 oc rl ou tl, q)) rfl ?_
          refine RQ.callQ rfl rfl (CQ.up (m_takes81 (d := 0) (c := 41) ht hM1 (by omega)) (by omega)) (fun rv9 g9 hc8 => ?_)
          obtain ⟨rfl, sc2, rfl, hs2, hM2⟩ := hc8
          obtain ⟨hv_2, hA_2, hW_2, hWr_2, hD_2, hG_2⟩ := id hM2
          rw [show rd tp (m + 1) 3 dp a = rsq (rd tp m 5 (dp + 1) (sk tp a + 1)) (rex tp 41) by show rUnit tp (rd tp m) dp a = _; unfold rUnit; rw [if_neg (by omega), if_pos (by omega), if_pos hd6]]
          rcases Decidable.em ((rsq (rd tp m 5 (dp + 1) (sk tp a + 1)) (rex tp 41)).1 = -1) with hr9 | hr9
          · skip
            rw [if_pos hr9]
            have hd2 : sc2 8012 = dp + 1 := (hG_2 hr9).2
            refine RQ.seg 6 (pc' := 85) (L' := [some (.ref 80), some (.int (iI (lkm (lk tp a)))), some (.int (iI 1))]) (st' := [.int ((iI (sc2 8012)) - (iI 1)), .ref 80]) (g1 := (HW sc2 ar 81 oc rl ou tl, q)) rfl ?_
            refine RQ.to (L' := [some (.ref 80), some (.int (iI (lkm (lk tp a)))), some (.int (iI 1))]) (st' := [.int (iI (sc2 8012 - 1)), .ref 80]) rfl (by simp only [iI_add, iI_sub, iI_mul, iI_neg]) ?_
            refine RQ.seg 2 (pc' := 89) (L' := [some (.ref 80), some (.int (iI (lkm (lk tp a)))), some (.int (iI 1))]) (st' := [.int (iI 1)]) (g1 := (HW (usc sc2 8012 (sc2 8012 - 1)) ar 81 oc rl ou tl, q)) rfl ?_
            refine RQ.ret rfl rfl ?_
            refine ⟨1, _, rfl, ⟨fun _ => by omega, by omega, by omega⟩, rfl, hS1.tr (hs2.tr (by repeat (first | exact Same.rf | refine Same.us rfl ?_))), ⟨hv_2, hA_2, hW_2, hWr_2, by show dp ≤ sc2 8012 - 1 ∧ sc2 8012 - 1 ≤ 6; omega, fun _ => ⟨(hG_2 hr9).1, by show sc2 8012 - 1 = dp; omega⟩⟩, fun _ st => ?_⟩
            obtain ⟨i1, i2, i3⟩ := rsq_i hr9
            rw [i3, rex_c, List.append_nil]
            exact hev i1 st
          · skip
            rw [if_neg hr9]
            refine RQ.seg 2 (pc' := 77) (L' := [some (.ref 80), some (.int (iI (lkm (lk tp a)))), some (.int (iI 1))]) (st' := [.int (iI 0)]) (g1 := (HW sc2 ar 81 oc rl ou tl, q)) rfl ?_
            refine RQ.ret rfl rfl ?_
            exact ⟨0, _, rfl, ⟨fun _ => by omega, by omega, by omega⟩, rfl, hS1.tr hs2, ⟨hv_2, hA_2, hW_2, hWr_2, ⟨by omega, hD_2.2⟩, fun z => absurd z hr9⟩, fun z => absurd z hr9⟩
      · refine RQ.call rfl rfl (CallR.up (d := 2) (m_goes81f (d := 0) (sc := usc sc 8010 (sk tp a)) (ar := ar) (dp := dp) g2 (by omega) (by show 0 ≤ sk tp a ∧ sk tp a ≤ 160; omega) hW hd6) (by omega)) ?_
        refine RQ.seg 2 (pc' := 59) (L' := [some (.ref 80), some (.int (iI (lkm (lk tp a)))), none]) (st' := [.int (iI 0)]) (g1 := (HW (usc (usc sc 8010 (sk tp a)) 8011 (sk tp a)) ar 81 oc rl ou tl, q)) rfl ?_
        refine RQ.ret rfl rfl ?_
        rw [show rd tp (m + 1) 3 dp a = rno tp a by show rUnit tp (rd tp m) dp a = _; unfold rUnit; rw [if_neg (by omega), if_pos (by omega), if_neg hd6]]
        exact ⟨0, _, rfl, ⟨fun _ => by omega, by omega, by omega⟩, rfl, (by repeat (first | exact Same.rf | refine Same.us rfl ?_)), ⟨hv, by show 0 ≤ sk tp a ∧ sk tp a ≤ _; omega, rfl, by show -1 ≤ sk tp a ∧ sk tp a ≤ 160; omega, hDp, fun z => absurd (show sk tp a = -1 from z) (by omega)⟩, fun z => absurd (show sk tp a = -1 from z) (by omega)⟩
  · skip
    refine RQ.seg 1 (pc' := 12) (L' := [some (.ref 80), some (.int (iI (lkm (lk tp a)))), none]) (st' := [.ref 80]) (g1 := (HW (usc sc 8010 (sk tp a)) ar 81 oc rl ou tl, q)) rfl ?_
    have hps := lk_in (tp := tp) (a := a) (by omega) (by omega)
    rcases Decidable.em (dp < 6) with hd6 | hd6
    · refine RQ.call rfl rfl (CallR.up (d := 2) (m_goes81t (d := 0) (sc := usc sc 8010 (sk tp a)) (ar := ar) (dp := dp) g2 (by omega) (by show 0 ≤ sk tp a ∧ sk tp a ≤ 160; omega) hW hd6) (by omega)) ?_
      refine RQ.hp (g1 := (HW (usc (usc sc 8010 (sk tp a + 1)) 8012 (dp + 1)) ar 81 oc rl ou tl, q)) (HW_e (by rw [usc_uu _ 8010 _ _]; try rfl) rfl) ?_
      refine RQ.seg 2 (pc' := 21) (L' := [some (.ref 80), some (.int (iI (lkm (lk tp a)))), none]) (st' := [.ref 80]) (g1 := (HW (usc (usc sc 8010 (sk tp a + 1)) 8012 (dp + 1)) ar 81 oc rl ou tl, q)) rfl ?_
      refine RQ.callQ rfl rfl (CQ.up (p3 (D - 1) (u - 1) (dp + 1) (sk tp a + 1) (usc (usc sc 8010 (sk tp a + 1)) 8012 (dp + 1)) oc rl ou tl q (by omega) (by omega) (by omega) ⟨hv, by show 0 ≤ sk tp a + 1 ∧ sk tp a + 1 ≤ _; omega, hW, hWr, by show dp + 1 ≤ dp + 1 ∧ dp + 1 ≤ 6; omega, fun _ => ⟨rfl, rfl⟩⟩ (by show 16 * ((tp.length : Int) - (sk tp a + 1)) + 4 ≤ (m : Int); omega)) (by omega)) (fun rv9 g9 hc9 => ?_)
      obtain ⟨z, sc1, rfl, hz, rfl, hs1, hM1, hev⟩ := hc9
      have hz1 := hz.2
      have hS1 : Same muF sc sc1 := Same.tr (by repeat (first | exact Same.rf | refine Same.us rfl ?_)) hs1
      obtain ⟨hv_1, hA_1, hW_1, hWr_1, hD_1, hG_1⟩ := id hM1
      rcases (show z = 0 ∨ z = 1 by have := hz.1 rfl; omega) with rfl | rfl
      · skip
        refine RQ.seg 6 (pc' := 32) (L' := [some (.ref 80), some (.int (iI (lkm (lk tp a)))), some (.int (iI 0))]) (st' := [.int ((iI (sc1 8012)) - (iI 1)), .ref 80]) (g1 := (HW sc1 ar 81 oc rl ou tl, q)) rfl ?_
        refine RQ.to (L' := [some (.ref 80), some (.int (iI (lkm (lk tp a)))), some (.int (iI 0))]) (st' := [.int (iI (sc1 8012 - 1)), .ref 80]) rfl (by simp only [iI_add, iI_sub, iI_mul, iI_neg]) ?_
        refine RQ.seg 5 (pc' := 44) (L' := [some (.ref 80), some (.int (iI (lkm (lk tp a)))), some (.int (iI 0))]) (st' := [.int (iI 1)]) (g1 := (HW (usc sc1 8012 (sc1 8012 - 1)) ar 81 oc rl ou tl, q)) rfl ?_
        refine RQ.ret rfl rfl ?_
        rw [show rd tp (m + 1) 3 dp a = rap (rd tp m 3 (dp + 1) (sk tp a + 1)) (-8) by show rUnit tp (rd tp m) dp a = _; unfold rUnit; rw [if_pos (by omega), if_pos hd6]]
        refine ⟨1, _, rfl, ⟨fun _ => by omega, by omega, by omega⟩, rfl, hS1.tr (by repeat (first | exact Same.rf | refine Same.us rfl ?_)), ⟨hv_1, hA_1, hW_1, hWr_1, by show dp ≤ sc1 8012 - 1 ∧ sc1 8012 - 1 ≤ 6; omega, fun e => ⟨(hG_1 e).1, by show sc1 8012 - 1 = dp; have := (hG_1 e).2; omega⟩⟩, fun e st => ?_⟩
        show ev _ ((rd tp m 3 (dp + 1) (sk tp a + 1)).2.2 ++ [-8]) st = 1 :: st
        rw [ev_app, show ev (fun k => ar 84 (kc3 k)) (rd tp m 3 (dp + 1) (sk tp a + 1)).2.2 st = 0 :: st from hev e st]; rfl
      · skip
        refine RQ.seg 6 (pc' := 32) (L' := [some (.ref 80), some (.int (iI (lkm (lk tp a)))), some (.int (iI 1))]) (st' := [.int ((iI (sc1 8012)) - (iI 1)), .ref 80]) (g1 := (HW sc1 ar 81 oc rl ou tl, q)) rfl ?_
        refine RQ.to (L' := [some (.ref 80), some (.int (iI (lkm (lk tp a)))), some (.int (iI 1))]) (st' := [.int (iI (sc1 8012 - 1)), .ref 80]) rfl (by simp only [iI_add, iI_sub, iI_mul, iI_neg]) ?_
        refine RQ.seg 4 (pc' := 44) (L' := [some (.ref 80), some (.int (iI (lkm (lk tp a)))), some (.int (iI 1))]) (st' := [.int (iI 0)]) (g1 := (HW (usc sc1 8012 (sc1 8012 - 1)) ar 81 oc rl ou tl, q)) rfl ?_
        refine RQ.ret rfl rfl ?_
        rw [show rd tp (m + 1) 3 dp a = rap (rd tp m 3 (dp + 1) (sk tp a + 1)) (-8) by show rUnit tp (rd tp m) dp a = _; unfold rUnit; rw [if_pos (by omega), if_pos hd6]]
        refine ⟨0, _, rfl, ⟨fun _ => by omega, by omega, by omega⟩, rfl, hS1.tr (by repeat (first | exact Same.rf | refine Same.us rfl ?_)), ⟨hv_1, hA_1, hW_1, hWr_1, by show dp ≤ sc1 8012 - 1 ∧ sc1 8012 - 1 ≤ 6; omega, fun e => ⟨(hG_1 e).1, by show sc1 8012 - 1 = dp; have := (hG_1 e).2; omega⟩⟩, fun e st => ?_⟩
        show ev _ ((rd tp m 3 (dp + 1) (sk tp a + 1)).2.2 ++ [-8]) st = 0 :: st
        rw [ev_app, show ev (fun k => ar 84 (kc3 k)) (rd tp m 3 (dp + 1) (sk tp a + 1)).2.2 st = 1 :: st from hev e st]; rfl
    · refine RQ.call rfl rfl (CallR.up (d := 2) (m_goes81f (d := 0) (sc := usc sc 8010 (sk tp a)) (ar := ar) (dp := dp) g2 (by omega) (by show 0 ≤ sk tp a ∧ sk tp a ≤ 160; omega) hW hd6) (by omega)) ?_
      refine RQ.seg 2 (pc' := 19) (L' := [some (.ref 80), some (.int (iI (lkm (lk tp a)))), none]) (st' := [.int (iI 0)]) (g1 := (HW (usc (usc sc 8010 (sk tp a)) 8011 (sk tp a)) ar 81 oc rl ou tl, q)) rfl ?_
      refine RQ.ret rfl rfl ?_
      rw [show rd tp (m + 1) 3 dp a = rno tp a by show rUnit tp (rd tp m) dp a = _; unfold rUnit; rw [if_pos (by omega), if_neg hd6]]
      exact ⟨0, _, rfl, ⟨fun _ => by omega, by omega, by omega⟩, rfl, (by repeat (first | exact Same.rf | refine Same.us rfl ?_)), ⟨hv, by show 0 ≤ sk tp a ∧ sk tp a ≤ _; omega, rfl, by show -1 ≤ sk tp a ∧ sk tp a ≤ 160; omega, hDp, fun z => absurd (show sk tp a = -1 from z) (by omega)⟩, fun z => absurd (show sk tp a = -1 from z) (by omega)⟩
def ML9_81 (K : PK) (tp : List Int) (bg : Int) (ar : Nat → Int → Int) (m : Nat) : Prop := ∀ (D u : Nat) (dp a v s1 s2 : Int) (e4 : Option Value) (sc : Nat → Int) (oc : Nat) (rl : Nat → Option Nat) (ou : Nat → Int64) (tl : List PO) (q : Nat × Nat), dp + u = 6 → 0 ≤ dp → 6 * u + 10 ≤ D → MX tp bg 160 (-1, a, []) dp sc (ar 81) → Fu tp m 9 a → (0 ≤ v ∧ v ≤ 1) → RQ K D 11 false (some .boolean) cd169 18 [some (.ref 80), some (.int (iI s1)), some (.int (iI s2)), some (.int (iI v)), e4] [] (HW sc ar 81 oc rl ou tl, q) (QM tp bg 160 81 9 (rd tp m 9 dp a) dp [v] sc ar oc rl ou tl q)
theorem ml81_9 {K : PK} {tp : List Int} {bg : Int} {ar : Nat → Int → Int} (ht : TpOK tp) {m : Nat} (p : MC K tp bg 160 81 ar m 3 168 9 [] []) (l : ML9_81 K tp bg ar m) : ML9_81 K tp bg ar (m + 1) := by
  intro D u dp a v s1 s2 e4 sc oc rl ou tl q hdu hdp hD hM hF rv
  have ht1 := ht.1
  obtain ⟨hv, hA, hW, hWr, hDp, hG⟩ := id hM
  obtain ⟨g1, g2⟩ := hG rfl
  replace g1 : sc 8010 = a := g1
  replace hW : sc 8011 = -1 := hW
  have hFu : 16 * ((tp.length : Int) - a) + 1 ≤ ((m + 1 : Nat) : Int) := hF
  have hsk := sk_r (tp := tp) (p := a) (by omega)
  have hlk : 0 ≤ lk tp a ∧ lk tp a ≤ 255 := tch_r ht (sk tp a)
  have hlm := lkm_r hlk
  rcases (show v = 0 ∨ v = 1 by omega) with rfl | rfl
  · skip
    refine RQ.seg 3 (pc' := 23) (L' := [some (.ref 80), some (.int (iI s1)), some (.int (iI s2)), some (.int (iI 0)), e4]) (st' := [.int (iI (-1)), .int (iI (sc 8011))]) (g1 := (HW sc ar 81 oc rl ou tl, q)) rfl ?_
    refine RQ.if2 (a := (sc 8011)) (b := (-1)) rfl rfl rfl rfl (by omega) (by omega) (fun (q : sc 8011 ≠ (-1)) => absurd q (show ¬ sc 8011 ≠ (-1) from by omega)) (fun _ => ?_)
    refine RQ.seg 1 (pc' := 27) (L' := [some (.ref 80), some (.int (iI s1)), some (.int (iI s2)), some (.int (iI 0)), e4]) (st' := [.ref 80]) (g1 := (HW sc ar 81 oc rl ou tl, q)) rfl ?_
    refine RQ.call rfl rfl (CallR.up (d := 1) (m_look81 (d := 0) (sc := sc) (ar := ar) (a := a) ht hv g1 (by omega)) (by omega)) ?_
    refine RQ.seg 1 (pc' := 32) (L' := [some (.ref 80), some (.int (iI s1)), some (.int (iI s2)), some (.int (iI 0)), e4]) (st' := [.int (iI 38), .int (iI (lkm (lk tp a)))]) (g1 := (HW (usc sc 8010 (sk tp a)) ar 81 oc rl ou tl, q)) rfl ?_
    refine RQ.if2 (a := (lkm (lk tp a))) (b := 38) rfl rfl rfl rfl (by omega) (by omega) (fun (h2 : lkm (lk tp a) ≠ 38) => ?_) (fun (h2 : ¬ lkm (lk tp a) ≠ 38) => ?_)
    · skip
      refine RQ.seg 1 (pc' := 70) (L' := [some (.ref 80), some (.int (iI s1)), some (.int (iI s2)), some (.int (iI 0)), e4]) (st' := [.int (iI 0)]) (g1 := (HW (usc sc 8010 (sk tp a)) ar 81 oc rl ou tl, q)) rfl ?_
      refine RQ.ret rfl rfl ?_
      rw [show rd tp (m + 1) 9 dp a = (-1, sk tp a, []) by show rAl tp (rd tp m) dp a = _; unfold rAl; rw [if_neg (by omega)]]
      exact ⟨0, _, rfl, ⟨fun _ => by omega, by omega, by omega⟩, rfl, (by repeat (first | exact Same.rf | refine Same.us rfl ?_)), ⟨hv, by show 0 ≤ sk tp a ∧ sk tp a ≤ _; omega, hW, hWr, hDp, fun _ => ⟨rfl, g2⟩⟩, fun _ st => rfl⟩
    · skip
      refine RQ.seg 5 (pc' := 42) (L' := [some (.ref 80), some (.int (iI s1)), some (.int (iI s2)), some (.int (iI 0)), e4]) (st' := [.int ((iI (sk tp a)) + (iI 1)), .ref 80]) (g1 := (HW (usc sc 8010 (sk tp a)) ar 81 oc rl ou tl, q)) rfl ?_
      refine RQ.to (L' := [some (.ref 80), some (.int (iI s1)), some (.int (iI s2)), some (.int (iI 0)), e4]) (st' := [.int (iI (sk tp a + 1)), .ref 80]) rfl (by simp only [iI_add, iI_sub, iI_mul, iI_neg]) ?_
      refine RQ.seg 2 (pc' := 46) (L' := [some (.ref 80), some (.int (iI s1)), some (.int (iI s2)), some (.int (iI 0)), e4]) (st' := [.ref 80]) (g1 := (HW (usc sc 8010 (sk tp a + 1)) ar 81 oc rl ou tl, q)) rfl ?_
      have hps := lk_in (tp := tp) (a := a) (by omega) (by omega)
      refine RQ.callQ rfl rfl (CQ.up (p (D - 1) u dp (sk tp a + 1) (usc sc 8010 (sk tp a + 1)) oc rl ou tl q hdu hdp (by omega) ⟨hv, by show 0 ≤ sk tp a + 1 ∧ sk tp a + 1 ≤ _; omega, hW, hWr, hDp, fun _ => ⟨rfl, g2⟩⟩ (by show 16 * ((tp.length : Int) - (sk tp a + 1)) + 4 ≤ (m : Int); omega)) (by omega)) (fun rv9 g9 hc9 => ?_)
      obtain ⟨z, sc1, rfl, hz, rfl, hs1, hM1, hev⟩ := hc9
      have hz1 := hz.2
      have hS1 : Same muF sc sc1 := Same.tr (by repeat (first | exact Same.rf | refine Same.us rfl ?_)) hs1
      obtain ⟨hv_1, hA_1, hW_1, hWr_1, hD_1, hG_1⟩ := id hM1
      rcases (show z = 0 ∨ z = 1 by have := hz.1 rfl; omega) with rfl | rfl
      · skip
        refine RQ.seg 6 (pc' := 18) (L' := [some (.ref 80), some (.int (iI s1)), some (.int (iI s2)), some (.int (iI 0)), some (.int (iI 0))]) (st' := []) (g1 := (HW sc1 ar 81 oc rl ou tl, q)) rfl ?_
        rw [show rd tp (m + 1) 9 dp a = rsq (rap (rd tp m 3 dp (sk tp a + 1)) (-9)) (rd tp m 9 dp) by show rAl tp (rd tp m) dp a = _; unfold rAl; rw [if_pos (by omega)]]
        rcases Decidable.em ((rd tp m 3 dp (sk tp a + 1)).1 = -1) with he1 | hE1
        · obtain ⟨k1, k2⟩ := hG_1 he1
          have hg : sk tp a + 1 + 1 ≤ (rd tp m 3 dp (sk tp a + 1)).2.1 ∧ _ := ((rd_ok (tp := tp) m).at 3 dp (a := sk tp a + 1) (by omega)).2 he1
          refine RQ.im (l D u dp (rd tp m 3 dp (sk tp a + 1)).2.1 0 s1 s2 _ sc1 oc rl ou tl q hdu hdp hD ⟨hv_1, hA_1, hW_1.trans he1, by show (-1 : Int) ≤ -1 ∧ (-1 : Int) ≤ 160; omega, hD_1, fun _ => ⟨k1, k2⟩⟩ (by show 16 * ((tp.length : Int) - (rd tp m 3 dp (sk tp a + 1)).2.1) + 1 ≤ (m : Int); omega) (by omega)) (fun vv gg hq => ?_)
          obtain ⟨z9, sc9, e9, hz9, e8, hs9, hM9, hev9⟩ := hq
          have eR : rsq (rap (rd tp m 3 dp (sk tp a + 1)) (-9)) (rd tp m 9 dp) = pre ((rd tp m 3 dp (sk tp a + 1)).2.2 ++ [-9]) (rd tp m 9 dp (rd tp m 3 dp (sk tp a + 1)).2.1) := rsq_p (r := rap (rd tp m 3 dp (sk tp a + 1)) (-9)) he1
          rw [eR]
          refine ⟨z9, sc9, e9, hz9, e8, hS1.tr hs9, hM9, fun zz st => ?_⟩
          show ev _ (((rd tp m 3 dp (sk tp a + 1)).2.2 ++ [-9]) ++ (rd tp m 9 dp (rd tp m 3 dp (sk tp a + 1)).2.1).2.2) (0 :: st) = z9 :: st
          rw [ev_app, ev_app, show ev (fun k => ar 84 (kc3 k)) (rd tp m 3 dp (sk tp a + 1)).2.2 (0 :: st) = 0 :: 0 :: st from hev he1 (0 :: st), ev_jn (by omega), show jn (-9) 0 0 = 0 from rfl]
          exact hev9 zz st
        · rw [rsq_b (show ¬ (rap (rd tp m 3 dp (sk tp a + 1)) (-9)).1 = -1 from hE1)]
          have hwn : ¬ sc1 8011 = -1 := by omega
          refine RQ.seg 3 (pc' := 23) (L' := [some (.ref 80), some (.int (iI s1)), some (.int (iI s2)), some (.int (iI 0)), some (.int (iI 0))]) (st' := [.int (iI (-1)), .int (iI (sc1 8011))]) (g1 := (HW sc1 ar 81 oc rl ou tl, q)) rfl ?_
          refine RQ.if2 (a := (sc1 8011)) (b := (-1)) rfl rfl rfl rfl (by omega) (by omega) (fun _ => ?_) (fun (q : ¬ sc1 8011 ≠ (-1)) => absurd (show sc1 8011 ≠ (-1) from by omega) q)
          refine RQ.seg 1 (pc' := 70) (L' := [some (.ref 80), some (.int (iI s1)), some (.int (iI s2)), some (.int (iI 0)), some (.int (iI 0))]) (st' := [.int (iI 0)]) (g1 := (HW sc1 ar 81 oc rl ou tl, q)) rfl ?_
          refine RQ.ret rfl rfl ?_
          exact ⟨_, sc1, rfl, ⟨fun _ => by omega, by omega, by omega⟩, rfl, hS1, hM1, fun z9 => absurd z9 hE1⟩
      · skip
        refine RQ.seg 6 (pc' := 18) (L' := [some (.ref 80), some (.int (iI s1)), some (.int (iI s2)), some (.int (iI 0)), some (.int (iI 1))]) (st' := []) (g1 := (HW sc1 ar 81 oc rl ou tl, q)) rfl ?_
        rw [show rd tp (m + 1) 9 dp a = rsq (rap (rd tp m 3 dp (sk tp a + 1)) (-9)) (rd tp m 9 dp) by show rAl tp (rd tp m) dp a = _; unfold rAl; rw [if_pos (by omega)]]
        rcases Decidable.em ((rd tp m 3 dp (sk tp a + 1)).1 = -1) with he1 | hE1
        · obtain ⟨k1, k2⟩ := hG_1 he1
          have hg : sk tp a + 1 + 1 ≤ (rd tp m 3 dp (sk tp a + 1)).2.1 ∧ _ := ((rd_ok (tp := tp) m).at 3 dp (a := sk tp a + 1) (by omega)).2 he1
          refine RQ.im (l D u dp (rd tp m 3 dp (sk tp a + 1)).2.1 0 s1 s2 _ sc1 oc rl ou tl q hdu hdp hD ⟨hv_1, hA_1, hW_1.trans he1, by show (-1 : Int) ≤ -1 ∧ (-1 : Int) ≤ 160; omega, hD_1, fun _ => ⟨k1, k2⟩⟩ (by show 16 * ((tp.length : Int) - (rd tp m 3 dp (sk tp a + 1)).2.1) + 1 ≤ (m : Int); omega) (by omega)) (fun vv gg hq => ?_)
          obtain ⟨z9, sc9, e9, hz9, e8, hs9, hM9, hev9⟩ := hq
          have eR : rsq (rap (rd tp m 3 dp (sk tp a + 1)) (-9)) (rd tp m 9 dp) = pre ((rd tp m 3 dp (sk tp a + 1)).2.2 ++ [-9]) (rd tp m 9 dp (rd tp m 3 dp (sk tp a + 1)).2.1) := rsq_p (r := rap (rd tp m 3 dp (sk tp a + 1)) (-9)) he1
          rw [eR]
          refine ⟨z9, sc9, e9, hz9, e8, hS1.tr hs9, hM9, fun zz st => ?_⟩
          show ev _ (((rd tp m 3 dp (sk tp a + 1)).2.2 ++ [-9]) ++ (rd tp m 9 dp (rd tp m 3 dp (sk tp a + 1)).2.1).2.2) (0 :: st) = z9 :: st
          rw [ev_app, ev_app, show ev (fun k => ar 84 (kc3 k)) (rd tp m 3 dp (sk tp a + 1)).2.2 (0 :: st) = 1 :: 0 :: st from hev he1 (0 :: st), ev_jn (by omega), show jn (-9) 0 1 = 0 from rfl]
          exact hev9 zz st
        · rw [rsq_b (show ¬ (rap (rd tp m 3 dp (sk tp a + 1)) (-9)).1 = -1 from hE1)]
          have hwn : ¬ sc1 8011 = -1 := by omega
          refine RQ.seg 3 (pc' := 23) (L' := [some (.ref 80), some (.int (iI s1)), some (.int (iI s2)), some (.int (iI 0)), some (.int (iI 1))]) (st' := [.int (iI (-1)), .int (iI (sc1 8011))]) (g1 := (HW sc1 ar 81 oc rl ou tl, q)) rfl ?_
          refine RQ.if2 (a := (sc1 8011)) (b := (-1)) rfl rfl rfl rfl (by omega) (by omega) (fun _ => ?_) (fun (q : ¬ sc1 8011 ≠ (-1)) => absurd (show sc1 8011 ≠ (-1) from by omega) q)
          refine RQ.seg 1 (pc' := 70) (L' := [some (.ref 80), some (.int (iI s1)), some (.int (iI s2)), some (.int (iI 0)), some (.int (iI 1))]) (st' := [.int (iI 0)]) (g1 := (HW sc1 ar 81 oc rl ou tl, q)) rfl ?_
          refine RQ.ret rfl rfl ?_
          exact ⟨_, sc1, rfl, ⟨fun _ => by omega, by omega, by omega⟩, rfl, hS1, hM1, fun z9 => absurd z9 hE1⟩
  · skip
    refine RQ.seg 3 (pc' := 23) (L' := [some (.ref 80), some (.int (iI s1)), some (.int (iI s2)), some (.int (iI 1)), e4]) (st' := [.int (iI (-1)), .int (iI (sc 8011))]) (g1 := (HW sc ar 81 oc rl ou tl, q)) rfl ?_
    refine RQ.if2 (a := (sc 8011)) (b := (-1)) rfl rfl rfl rfl (by omega) (by omega) (fun (q : sc 8011 ≠ (-1)) => absurd q (show ¬ sc 8011 ≠ (-1) from by omega)) (fun _ => ?_)
    refine RQ.seg 1 (pc' := 27) (L' := [some (.ref 80), some (.int (iI s1)), some (.int (iI s2)), some (.int (iI 1)), e4]) (st' := [.ref 80]) (g1 := (HW sc ar 81 oc rl ou tl, q)) rfl ?_
    refine RQ.call rfl rfl (CallR.up (d := 1) (m_look81 (d := 0) (sc := sc) (ar := ar) (a := a) ht hv g1 (by omega)) (by omega)) ?_
    refine RQ.seg 1 (pc' := 32) (L' := [some (.ref 80), some (.int (iI s1)), some (.int (iI s2)), some (.int (iI 1)), e4]) (st' := [.int (iI 38), .int (iI (lkm (lk tp a)))]) (g1 := (HW (usc sc 8010 (sk tp a)) ar 81 oc rl ou tl, q)) rfl ?_
    refine RQ.if2 (a := (lkm (lk tp a))) (b := 38) rfl rfl rfl rfl (by omega) (by omega) (fun (h2 : lkm (lk tp a) ≠ 38) => ?_) (fun (h2 : ¬ lkm (lk tp a) ≠ 38) => ?_)
    · skip
      refine RQ.seg 1 (pc' := 70) (L' := [some (.ref 80), some (.int (iI s1)), some (.int (iI s2)), some (.int (iI 1)), e4]) (st' := [.int (iI 1)]) (g1 := (HW (usc sc 8010 (sk tp a)) ar 81 oc rl ou tl, q)) rfl ?_
      refine RQ.ret rfl rfl ?_
      rw [show rd tp (m + 1) 9 dp a = (-1, sk tp a, []) by show rAl tp (rd tp m) dp a = _; unfold rAl; rw [if_neg (by omega)]]
      exact ⟨1, _, rfl, ⟨fun _ => by omega, by omega, by omega⟩, rfl, (by repeat (first | exact Same.rf | refine Same.us rfl ?_)), ⟨hv, by show 0 ≤ sk tp a ∧ sk tp a ≤ _; omega, hW, hWr, hDp, fun _ => ⟨rfl, g2⟩⟩, fun _ st => rfl⟩
    · skip
      refine RQ.seg 5 (pc' := 42) (L' := [some (.ref 80), some (.int (iI s1)), some (.int (iI s2)), some (.int (iI 1)), e4]) (st' := [.int ((iI (sk tp a)) + (iI 1)), .ref 80]) (g1 := (HW (usc sc 8010 (sk tp a)) ar 81 oc rl ou tl, q)) rfl ?_
      refine RQ.to (L' := [some (.ref 80), some (.int (iI s1)), some (.int (iI s2)), some (.int (iI 1)), e4]) (st' := [.int (iI (sk tp a + 1)), .ref 80]) rfl (by simp only [iI_add, iI_sub, iI_mul, iI_neg]) ?_
      refine RQ.seg 2 (pc' := 46) (L' := [some (.ref 80), some (.int (iI s1)), some (.int (iI s2)), some (.int (iI 1)), e4]) (st' := [.ref 80]) (g1 := (HW (usc sc 8010 (sk tp a + 1)) ar 81 oc rl ou tl, q)) rfl ?_
      have hps := lk_in (tp := tp) (a := a) (by omega) (by omega)
      refine RQ.callQ rfl rfl (CQ.up (p (D - 1) u dp (sk tp a + 1) (usc sc 8010 (sk tp a + 1)) oc rl ou tl q hdu hdp (by omega) ⟨hv, by show 0 ≤ sk tp a + 1 ∧ sk tp a + 1 ≤ _; omega, hW, hWr, hDp, fun _ => ⟨rfl, g2⟩⟩ (by show 16 * ((tp.length : Int) - (sk tp a + 1)) + 4 ≤ (m : Int); omega)) (by omega)) (fun rv9 g9 hc9 => ?_)
      obtain ⟨z, sc1, rfl, hz, rfl, hs1, hM1, hev⟩ := hc9
      have hz1 := hz.2
      have hS1 : Same muF sc sc1 := Same.tr (by repeat (first | exact Same.rf | refine Same.us rfl ?_)) hs1
      obtain ⟨hv_1, hA_1, hW_1, hWr_1, hD_1, hG_1⟩ := id hM1
      rcases (show z = 0 ∨ z = 1 by have := hz.1 rfl; omega) with rfl | rfl
      · skip
        refine RQ.seg 8 (pc' := 18) (L' := [some (.ref 80), some (.int (iI s1)), some (.int (iI s2)), some (.int (iI 0)), some (.int (iI 0))]) (st' := []) (g1 := (HW sc1 ar 81 oc rl ou tl, q)) rfl ?_
        rw [show rd tp (m + 1) 9 dp a = rsq (rap (rd tp m 3 dp (sk tp a + 1)) (-9)) (rd tp m 9 dp) by show rAl tp (rd tp m) dp a = _; unfold rAl; rw [if_pos (by omega)]]
        rcases Decidable.em ((rd tp m 3 dp (sk tp a + 1)).1 = -1) with he1 | hE1
        · obtain ⟨k1, k2⟩ := hG_1 he1
          have hg : sk tp a + 1 + 1 ≤ (rd tp m 3 dp (sk tp a + 1)).2.1 ∧ _ := ((rd_ok (tp := tp) m).at 3 dp (a := sk tp a + 1) (by omega)).2 he1
          refine RQ.im (l D u dp (rd tp m 3 dp (sk tp a + 1)).2.1 0 s1 s2 _ sc1 oc rl ou tl q hdu hdp hD ⟨hv_1, hA_1, hW_1.trans he1, by show (-1 : Int) ≤ -1 ∧ (-1 : Int) ≤ 160; omega, hD_1, fun _ => ⟨k1, k2⟩⟩ (by show 16 * ((tp.length : Int) - (rd tp m 3 dp (sk tp a + 1)).2.1) + 1 ≤ (m : Int); omega) (by omega)) (fun vv gg hq => ?_)
          obtain ⟨z9, sc9, e9, hz9, e8, hs9, hM9, hev9⟩ := hq
          have eR : rsq (rap (rd tp m 3 dp (sk tp a + 1)) (-9)) (rd tp m 9 dp) = pre ((rd tp m 3 dp (sk tp a + 1)).2.2 ++ [-9]) (rd tp m 9 dp (rd tp m 3 dp (sk tp a + 1)).2.1) := rsq_p (r := rap (rd tp m 3 dp (sk tp a + 1)) (-9)) he1
          rw [eR]
          refine ⟨z9, sc9, e9, hz9, e8, hS1.tr hs9, hM9, fun zz st => ?_⟩
          show ev _ (((rd tp m 3 dp (sk tp a + 1)).2.2 ++ [-9]) ++ (rd tp m 9 dp (rd tp m 3 dp (sk tp a + 1)).2.1).2.2) (1 :: st) = z9 :: st
          rw [ev_app, ev_app, show ev (fun k => ar 84 (kc3 k)) (rd tp m 3 dp (sk tp a + 1)).2.2 (1 :: st) = 0 :: 1 :: st from hev he1 (1 :: st), ev_jn (by omega), show jn (-9) 1 0 = 0 from rfl]
          exact hev9 zz st
        · rw [rsq_b (show ¬ (rap (rd tp m 3 dp (sk tp a + 1)) (-9)).1 = -1 from hE1)]
          have hwn : ¬ sc1 8011 = -1 := by omega
          refine RQ.seg 3 (pc' := 23) (L' := [some (.ref 80), some (.int (iI s1)), some (.int (iI s2)), some (.int (iI 0)), some (.int (iI 0))]) (st' := [.int (iI (-1)), .int (iI (sc1 8011))]) (g1 := (HW sc1 ar 81 oc rl ou tl, q)) rfl ?_
          refine RQ.if2 (a := (sc1 8011)) (b := (-1)) rfl rfl rfl rfl (by omega) (by omega) (fun _ => ?_) (fun (q : ¬ sc1 8011 ≠ (-1)) => absurd (show sc1 8011 ≠ (-1) from by omega) q)
          refine RQ.seg 1 (pc' := 70) (L' := [some (.ref 80), some (.int (iI s1)), some (.int (iI s2)), some (.int (iI 0)), some (.int (iI 0))]) (st' := [.int (iI 0)]) (g1 := (HW sc1 ar 81 oc rl ou tl, q)) rfl ?_
          refine RQ.ret rfl rfl ?_
          exact ⟨_, sc1, rfl, ⟨fun _ => by omega, by omega, by omega⟩, rfl, hS1, hM1, fun z9 => absurd z9 hE1⟩
      · skip
        refine RQ.seg 9 (pc' := 18) (L' := [some (.ref 80), some (.int (iI s1)), some (.int (iI s2)), some (.int (iI 1)), some (.int (iI 1))]) (st' := []) (g1 := (HW sc1 ar 81 oc rl ou tl, q)) rfl ?_
        rw [show rd tp (m + 1) 9 dp a = rsq (rap (rd tp m 3 dp (sk tp a + 1)) (-9)) (rd tp m 9 dp) by show rAl tp (rd tp m) dp a = _; unfold rAl; rw [if_pos (by omega)]]
        rcases Decidable.em ((rd tp m 3 dp (sk tp a + 1)).1 = -1) with he1 | hE1
        · obtain ⟨k1, k2⟩ := hG_1 he1
          have hg : sk tp a + 1 + 1 ≤ (rd tp m 3 dp (sk tp a + 1)).2.1 ∧ _ := ((rd_ok (tp := tp) m).at 3 dp (a := sk tp a + 1) (by omega)).2 he1
          refine RQ.im (l D u dp (rd tp m 3 dp (sk tp a + 1)).2.1 1 s1 s2 _ sc1 oc rl ou tl q hdu hdp hD ⟨hv_1, hA_1, hW_1.trans he1, by show (-1 : Int) ≤ -1 ∧ (-1 : Int) ≤ 160; omega, hD_1, fun _ => ⟨k1, k2⟩⟩ (by show 16 * ((tp.length : Int) - (rd tp m 3 dp (sk tp a + 1)).2.1) + 1 ≤ (m : Int); omega) (by omega)) (fun vv gg hq => ?_)
          obtain ⟨z9, sc9, e9, hz9, e8, hs9, hM9, hev9⟩ := hq
          have eR : rsq (rap (rd tp m 3 dp (sk tp a + 1)) (-9)) (rd tp m 9 dp) = pre ((rd tp m 3 dp (sk tp a + 1)).2.2 ++ [-9]) (rd tp m 9 dp (rd tp m 3 dp (sk tp a + 1)).2.1) := rsq_p (r := rap (rd tp m 3 dp (sk tp a + 1)) (-9)) he1
          rw [eR]
          refine ⟨z9, sc9, e9, hz9, e8, hS1.tr hs9, hM9, fun zz st => ?_⟩
          show ev _ (((rd tp m 3 dp (sk tp a + 1)).2.2 ++ [-9]) ++ (rd tp m 9 dp (rd tp m 3 dp (sk tp a + 1)).2.1).2.2) (1 :: st) = z9 :: st
          rw [ev_app, ev_app, show ev (fun k => ar 84 (kc3 k)) (rd tp m 3 dp (sk tp a + 1)).2.2 (1 :: st) = 1 :: 1 :: st from hev he1 (1 :: st), ev_jn (by omega), show jn (-9) 1 1 = 1 from rfl]
          exact hev9 zz st
        · rw [rsq_b (show ¬ (rap (rd tp m 3 dp (sk tp a + 1)) (-9)).1 = -1 from hE1)]
          have hwn : ¬ sc1 8011 = -1 := by omega
          refine RQ.seg 3 (pc' := 23) (L' := [some (.ref 80), some (.int (iI s1)), some (.int (iI s2)), some (.int (iI 1)), some (.int (iI 1))]) (st' := [.int (iI (-1)), .int (iI (sc1 8011))]) (g1 := (HW sc1 ar 81 oc rl ou tl, q)) rfl ?_
          refine RQ.if2 (a := (sc1 8011)) (b := (-1)) rfl rfl rfl rfl (by omega) (by omega) (fun _ => ?_) (fun (q : ¬ sc1 8011 ≠ (-1)) => absurd (show sc1 8011 ≠ (-1) from by omega) q)
          refine RQ.seg 1 (pc' := 70) (L' := [some (.ref 80), some (.int (iI s1)), some (.int (iI s2)), some (.int (iI 1)), some (.int (iI 1))]) (st' := [.int (iI 1)]) (g1 := (HW sc1 ar 81 oc rl ou tl, q)) rfl ?_
          refine RQ.ret rfl rfl ?_
          exact ⟨_, sc1, rfl, ⟨fun _ => by omega, by omega, by omega⟩, rfl, hS1, hM1, fun z9 => absurd z9 hE1⟩
def ML11_81 (K : PK) (tp : List Int) (bg : Int) (ar : Nat → Int → Int) (m : Nat) : Prop := ∀ (D u : Nat) (dp a v s1 s2 : Int) (e4 : Option Value) (sc : Nat → Int) (oc : Nat) (rl : Nat → Option Nat) (ou : Nat → Int64) (tl : List PO) (q : Nat × Nat), dp + u = 6 → 0 ≤ dp → 6 * u + 11 ≤ D → MX tp bg 160 (-1, a, []) dp sc (ar 81) → Fu tp m 11 a → (0 ≤ v ∧ v ≤ 1) → RQ K D 11 false (some .boolean) cd170 7 [some (.ref 80), some (.int (iI s1)), some (.int (iI s2)), some (.int (iI v)), e4] [] (HW sc ar 81 oc rl ou tl, q) (QM tp bg 160 81 11 (rd tp m 11 dp a) dp [v] sc ar oc rl ou tl q)
theorem ml81_11 {K : PK} {tp : List Int} {bg : Int} {ar : Nat → Int → Int} (ht : TpOK tp) {m : Nat} (p : MC K tp bg 160 81 ar m 4 169 10 [.int (iI 0), .int (iI 0)] []) (l : ML11_81 K tp bg ar m) : ML11_81 K tp bg ar (m + 1) := by
  intro D u dp a v s1 s2 e4 sc oc rl ou tl q hdu hdp hD hM hF rv
  have ht1 := ht.1
  obtain ⟨hv, hA, hW, hWr, hDp, hG⟩ := id hM
  obtain ⟨g1, g2⟩ := hG rfl
  replace g1 : sc 8010 = a := g1
  replace hW : sc 8011 = -1 := hW
  have hFu : 16 * ((tp.length : Int) - a) + 1 ≤ ((m + 1 : Nat) : Int) := hF
  have hsk := sk_r (tp := tp) (p := a) (by omega)
  have hlk : 0 ≤ lk tp a ∧ lk tp a ≤ 255 := tch_r ht (sk tp a)
  have hlm := lkm_r hlk
  rcases (show v = 0 ∨ v = 1 by omega) with rfl | rfl
  · skip
    refine RQ.seg 3 (pc' := 12) (L' := [some (.ref 80), some (.int (iI s1)), some (.int (iI s2)), some (.int (iI 0)), e4]) (st' := [.int (iI (-1)), .int (iI (sc 8011))]) (g1 := (HW sc ar 81 oc rl ou tl, q)) rfl ?_
    refine RQ.if2 (a := (sc 8011)) (b := (-1)) rfl rfl rfl rfl (by omega) (by omega) (fun (q : sc 8011 ≠ (-1)) => absurd q (show ¬ sc 8011 ≠ (-1) from by omega)) (fun _ => ?_)
    refine RQ.seg 1 (pc' := 16) (L' := [some (.ref 80), some (.int (iI s1)), some (.int (iI s2)), some (.int (iI 0)), e4]) (st' := [.ref 80]) (g1 := (HW sc ar 81 oc rl ou tl, q)) rfl ?_
    refine RQ.call rfl rfl (CallR.up (d := 1) (m_look81 (d := 0) (sc := sc) (ar := ar) (a := a) ht hv g1 (by omega)) (by omega)) ?_
    refine RQ.seg 1 (pc' := 21) (L' := [some (.ref 80), some (.int (iI s1)), some (.int (iI s2)), some (.int (iI 0)), e4]) (st' := [.int (iI 124), .int (iI (lkm (lk tp a)))]) (g1 := (HW (usc sc 8010 (sk tp a)) ar 81 oc rl ou tl, q)) rfl ?_
    refine RQ.if2 (a := (lkm (lk tp a))) (b := 124) rfl rfl rfl rfl (by omega) (by omega) (fun (h2 : lkm (lk tp a) ≠ 124) => ?_) (fun (h2 : ¬ lkm (lk tp a) ≠ 124) => ?_)
    · skip
      refine RQ.seg 1 (pc' := 61) (L' := [some (.ref 80), some (.int (iI s1)), some (.int (iI s2)), some (.int (iI 0)), e4]) (st' := [.int (iI 0)]) (g1 := (HW (usc sc 8010 (sk tp a)) ar 81 oc rl ou tl, q)) rfl ?_
      refine RQ.ret rfl rfl ?_
      rw [show rd tp (m + 1) 11 dp a = (-1, sk tp a, []) by show rOl tp (rd tp m) dp a = _; unfold rOl; rw [if_neg (by omega)]]
      exact ⟨0, _, rfl, ⟨fun _ => by omega, by omega, by omega⟩, rfl, (by repeat (first | exact Same.rf | refine Same.us rfl ?_)), ⟨hv, by show 0 ≤ sk tp a ∧ sk tp a ≤ _; omega, hW, hWr, hDp, fun _ => ⟨rfl, g2⟩⟩, fun _ st => rfl⟩
    · skip
      refine RQ.seg 5 (pc' := 31) (L' := [some (.ref 80), some (.int (iI s1)), some (.int (iI s2)), some (.int (iI 0)), e4]) (st' := [.int ((iI (sk tp a)) + (iI 1)), .ref 80]) (g1 := (HW (usc sc 8010 (sk tp a)) ar 81 oc rl ou tl, q)) rfl ?_
      refine RQ.to (L' := [some (.ref 80), some (.int (iI s1)), some (.int (iI s2)), some (.int (iI 0)), e4]) (st' := [.int (iI (sk tp a + 1)), .ref 80]) rfl (by simp only [iI_add, iI_sub, iI_mul, iI_neg]) ?_
      refine RQ.seg 4 (pc' := 37) (L' := [some (.ref 80), some (.int (iI s1)), some (.int (iI s2)), some (.int (iI 0)), e4]) (st' := [.int (iI 0), .int (iI 0), .ref 80]) (g1 := (HW (usc sc 8010 (sk tp a + 1)) ar 81 oc rl ou tl, q)) rfl ?_
      have hps := lk_in (tp := tp) (a := a) (by omega) (by omega)
      refine RQ.callQ rfl rfl (CQ.up (p (D - 1) u dp (sk tp a + 1) (usc sc 8010 (sk tp a + 1)) oc rl ou tl q hdu hdp (by omega) ⟨hv, by show 0 ≤ sk tp a + 1 ∧ sk tp a + 1 ≤ _; omega, hW, hWr, hDp, fun _ => ⟨rfl, g2⟩⟩ (by show 16 * ((tp.length : Int) - (sk tp a + 1)) + 5 ≤ (m : Int); omega)) (by omega)) (fun rv9 g9 hc9 => ?_)
      obtain ⟨z, sc1, rfl, hz, rfl, hs1, hM1, hev⟩ := hc9
      have hz1 := hz.2
      have hS1 : Same muF sc sc1 := Same.tr (by repeat (first | exact Same.rf | refine Same.us rfl ?_)) hs1
      obtain ⟨hv_1, hA_1, hW_1, hWr_1, hD_1, hG_1⟩ := id hM1
      rcases (show z = 0 ∨ z = 1 by have := hz.1 rfl; omega) with rfl | rfl
      · skip
        refine RQ.seg 8 (pc' := 7) (L' := [some (.ref 80), some (.int (iI s1)), some (.int (iI s2)), some (.int (iI 0)), some (.int (iI 0))]) (st' := []) (g1 := (HW sc1 ar 81 oc rl ou tl, q)) rfl ?_
        rw [show rd tp (m + 1) 11 dp a = rsq (rap (rd tp m 4 dp (sk tp a + 1)) (-10)) (rd tp m 11 dp) by show rOl tp (rd tp m) dp a = _; unfold rOl; rw [if_pos (by omega)]]
        rcases Decidable.em ((rd tp m 4 dp (sk tp a + 1)).1 = -1) with he1 | hE1
        · obtain ⟨k1, k2⟩ := hG_1 he1
          have hg : sk tp a + 1 + 1 ≤ (rd tp m 4 dp (sk tp a + 1)).2.1 ∧ _ := ((rd_ok (tp := tp) m).at 4 dp (a := sk tp a + 1) (by omega)).2 he1
          refine RQ.im (l D u dp (rd tp m 4 dp (sk tp a + 1)).2.1 0 s1 s2 _ sc1 oc rl ou tl q hdu hdp hD ⟨hv_1, hA_1, hW_1.trans he1, by show (-1 : Int) ≤ -1 ∧ (-1 : Int) ≤ 160; omega, hD_1, fun _ => ⟨k1, k2⟩⟩ (by show 16 * ((tp.length : Int) - (rd tp m 4 dp (sk tp a + 1)).2.1) + 1 ≤ (m : Int); omega) (by omega)) (fun vv gg hq => ?_)
          obtain ⟨z9, sc9, e9, hz9, e8, hs9, hM9, hev9⟩ := hq
          have eR : rsq (rap (rd tp m 4 dp (sk tp a + 1)) (-10)) (rd tp m 11 dp) = pre ((rd tp m 4 dp (sk tp a + 1)).2.2 ++ [-10]) (rd tp m 11 dp (rd tp m 4 dp (sk tp a + 1)).2.1) := rsq_p (r := rap (rd tp m 4 dp (sk tp a + 1)) (-10)) he1
          rw [eR]
          refine ⟨z9, sc9, e9, hz9, e8, hS1.tr hs9, hM9, fun zz st => ?_⟩
          show ev _ (((rd tp m 4 dp (sk tp a + 1)).2.2 ++ [-10]) ++ (rd tp m 11 dp (rd tp m 4 dp (sk tp a + 1)).2.1).2.2) (0 :: st) = z9 :: st
          rw [ev_app, ev_app, show ev (fun k => ar 84 (kc3 k)) (rd tp m 4 dp (sk tp a + 1)).2.2 (0 :: st) = 0 :: 0 :: st from hev he1 (0 :: st), ev_jn (by omega), show jn (-10) 0 0 = 0 from rfl]
          exact hev9 zz st
        · rw [rsq_b (show ¬ (rap (rd tp m 4 dp (sk tp a + 1)) (-10)).1 = -1 from hE1)]
          have hwn : ¬ sc1 8011 = -1 := by omega
          refine RQ.seg 3 (pc' := 12) (L' := [some (.ref 80), some (.int (iI s1)), some (.int (iI s2)), some (.int (iI 0)), some (.int (iI 0))]) (st' := [.int (iI (-1)), .int (iI (sc1 8011))]) (g1 := (HW sc1 ar 81 oc rl ou tl, q)) rfl ?_
          refine RQ.if2 (a := (sc1 8011)) (b := (-1)) rfl rfl rfl rfl (by omega) (by omega) (fun _ => ?_) (fun (q : ¬ sc1 8011 ≠ (-1)) => absurd (show sc1 8011 ≠ (-1) from by omega) q)
          refine RQ.seg 1 (pc' := 61) (L' := [some (.ref 80), some (.int (iI s1)), some (.int (iI s2)), some (.int (iI 0)), some (.int (iI 0))]) (st' := [.int (iI 0)]) (g1 := (HW sc1 ar 81 oc rl ou tl, q)) rfl ?_
          refine RQ.ret rfl rfl ?_
          exact ⟨_, sc1, rfl, ⟨fun _ => by omega, by omega, by omega⟩, rfl, hS1, hM1, fun z9 => absurd z9 hE1⟩
      · skip
        refine RQ.seg 9 (pc' := 7) (L' := [some (.ref 80), some (.int (iI s1)), some (.int (iI s2)), some (.int (iI 1)), some (.int (iI 1))]) (st' := []) (g1 := (HW sc1 ar 81 oc rl ou tl, q)) rfl ?_
        rw [show rd tp (m + 1) 11 dp a = rsq (rap (rd tp m 4 dp (sk tp a + 1)) (-10)) (rd tp m 11 dp) by show rOl tp (rd tp m) dp a = _; unfold rOl; rw [if_pos (by omega)]]
        rcases Decidable.em ((rd tp m 4 dp (sk tp a + 1)).1 = -1) with he1 | hE1
        · obtain ⟨k1, k2⟩ := hG_1 he1
          have hg : sk tp a + 1 + 1 ≤ (rd tp m 4 dp (sk tp a + 1)).2.1 ∧ _ := ((rd_ok (tp := tp) m).at 4 dp (a := sk tp a + 1) (by omega)).2 he1
          refine RQ.im (l D u dp (rd tp m 4 dp (sk tp a + 1)).2.1 1 s1 s2 _ sc1 oc rl ou tl q hdu hdp hD ⟨hv_1, hA_1, hW_1.trans he1, by show (-1 : Int) ≤ -1 ∧ (-1 : Int) ≤ 160; omega, hD_1, fun _ => ⟨k1, k2⟩⟩ (by show 16 * ((tp.length : Int) - (rd tp m 4 dp (sk tp a + 1)).2.1) + 1 ≤ (m : Int); omega) (by omega)) (fun vv gg hq => ?_)
          obtain ⟨z9, sc9, e9, hz9, e8, hs9, hM9, hev9⟩ := hq
          have eR : rsq (rap (rd tp m 4 dp (sk tp a + 1)) (-10)) (rd tp m 11 dp) = pre ((rd tp m 4 dp (sk tp a + 1)).2.2 ++ [-10]) (rd tp m 11 dp (rd tp m 4 dp (sk tp a + 1)).2.1) := rsq_p (r := rap (rd tp m 4 dp (sk tp a + 1)) (-10)) he1
          rw [eR]
          refine ⟨z9, sc9, e9, hz9, e8, hS1.tr hs9, hM9, fun zz st => ?_⟩
          show ev _ (((rd tp m 4 dp (sk tp a + 1)).2.2 ++ [-10]) ++ (rd tp m 11 dp (rd tp m 4 dp (sk tp a + 1)).2.1).2.2) (0 :: st) = z9 :: st
          rw [ev_app, ev_app, show ev (fun k => ar 84 (kc3 k)) (rd tp m 4 dp (sk tp a + 1)).2.2 (0 :: st) = 1 :: 0 :: st from hev he1 (0 :: st), ev_jn (by omega), show jn (-10) 0 1 = 1 from rfl]
          exact hev9 zz st
        · rw [rsq_b (show ¬ (rap (rd tp m 4 dp (sk tp a + 1)) (-10)).1 = -1 from hE1)]
          have hwn : ¬ sc1 8011 = -1 := by omega
          refine RQ.seg 3 (pc' := 12) (L' := [some (.ref 80), some (.int (iI s1)), some (.int (iI s2)), some (.int (iI 1)), some (.int (iI 1))]) (st' := [.int (iI (-1)), .int (iI (sc1 8011))]) (g1 := (HW sc1 ar 81 oc rl ou tl, q)) rfl ?_
          refine RQ.if2 (a := (sc1 8011)) (b := (-1)) rfl rfl rfl rfl (by omega) (by omega) (fun _ => ?_) (fun (q : ¬ sc1 8011 ≠ (-1)) => absurd (show sc1 8011 ≠ (-1) from by omega) q)
          refine RQ.seg 1 (pc' := 61) (L' := [some (.ref 80), some (.int (iI s1)), some (.int (iI s2)), some (.int (iI 1)), some (.int (iI 1))]) (st' := [.int (iI 1)]) (g1 := (HW sc1 ar 81 oc rl ou tl, q)) rfl ?_
          refine RQ.ret rfl rfl ?_
          exact ⟨_, sc1, rfl, ⟨fun _ => by omega, by omega, by omega⟩, rfl, hS1, hM1, fun z9 => absurd z9 hE1⟩
  · skip
    refine RQ.seg 3 (pc' := 12) (L' := [some (.ref 80), some (.int (iI s1)), some (.int (iI s2)), some (.int (iI 1)), e4]) (st' := [.int (iI (-1)), .int (iI (sc 8011))]) (g1 := (HW sc ar 81 oc rl ou tl, q)) rfl ?_
    refine RQ.if2 (a := (sc 8011)) (b := (-1)) rfl rfl rfl rfl (by omega) (by omega) (fun (q : sc 8011 ≠ (-1)) => absurd q (show ¬ sc 8011 ≠ (-1) from by omega)) (fun _ => ?_)
    refine RQ.seg 1 (pc' := 16) (L' := [some (.ref 80), some (.int (iI s1)), some (.int (iI s2)), some (.int (iI 1)), e4]) (st' := [.ref 80]) (g1 := (HW sc ar 81 oc rl ou tl, q)) rfl ?_
    refine RQ.call rfl rfl (CallR.up (d := 1) (m_look81 (d := 0) (sc := sc) (ar := ar) (a := a) ht hv g1 (by omega)) (by omega)) ?_
    refine RQ.seg 1 (pc' := 21) (L' := [some (.ref 80), some (.int (iI s1)), some (.int (iI s2)), some (.int (iI 1)), e4]) (st' := [.int (iI 124), .int (iI (lkm (lk tp a)))]) (g1 := (HW (usc sc 8010 (sk tp a)) ar 81 oc rl ou tl, q)) rfl ?_
    refine RQ.if2 (a := (lkm (lk tp a))) (b := 124) rfl rfl rfl rfl (by omega) (by omega) (fun (h2 : lkm (lk tp a) ≠ 124) => ?_) (fun (h2 : ¬ lkm (lk tp a) ≠ 124) => ?_)
    · skip
      refine RQ.seg 1 (pc' := 61) (L' := [some (.ref 80), some (.int (iI s1)), some (.int (iI s2)), some (.int (iI 1)), e4]) (st' := [.int (iI 1)]) (g1 := (HW (usc sc 8010 (sk tp a)) ar 81 oc rl ou tl, q)) rfl ?_
      refine RQ.ret rfl rfl ?_
      rw [show rd tp (m + 1) 11 dp a = (-1, sk tp a, []) by show rOl tp (rd tp m) dp a = _; unfold rOl; rw [if_neg (by omega)]]
      exact ⟨1, _, rfl, ⟨fun _ => by omega, by omega, by omega⟩, rfl, (by repeat (first | exact Same.rf | refine Same.us rfl ?_)), ⟨hv, by show 0 ≤ sk tp a ∧ sk tp a ≤ _; omega, hW, hWr, hDp, fun _ => ⟨rfl, g2⟩⟩, fun _ st => rfl⟩
    · skip
      refine RQ.seg 5 (pc' := 31) (L' := [some (.ref 80), some (.int (iI s1)), some (.int (iI s2)), some (.int (iI 1)), e4]) (st' := [.int ((iI (sk tp a)) + (iI 1)), .ref 80]) (g1 := (HW (usc sc 8010 (sk tp a)) ar 81 oc rl ou tl, q)) rfl ?_
      refine RQ.to (L' := [some (.ref 80), some (.int (iI s1)), some (.int (iI s2)), some (.int (iI 1)), e4]) (st' := [.int (iI (sk tp a + 1)), .ref 80]) rfl (by simp only [iI_add, iI_sub, iI_mul, iI_neg]) ?_
      refine RQ.seg 4 (pc' := 37) (L' := [some (.ref 80), some (.int (iI s1)), some (.int (iI s2)), some (.int (iI 1)), e4]) (st' := [.int (iI 0), .int (iI 0), .ref 80]) (g1 := (HW (usc sc 8010 (sk tp a + 1)) ar 81 oc rl ou tl, q)) rfl ?_
      have hps := lk_in (tp := tp) (a := a) (by omega) (by omega)
      refine RQ.callQ rfl rfl (CQ.up (p (D - 1) u dp (sk tp a + 1) (usc sc 8010 (sk tp a + 1)) oc rl ou tl q hdu hdp (by omega) ⟨hv, by show 0 ≤ sk tp a + 1 ∧ sk tp a + 1 ≤ _; omega, hW, hWr, hDp, fun _ => ⟨rfl, g2⟩⟩ (by show 16 * ((tp.length : Int) - (sk tp a + 1)) + 5 ≤ (m : Int); omega)) (by omega)) (fun rv9 g9 hc9 => ?_)
      obtain ⟨z, sc1, rfl, hz, rfl, hs1, hM1, hev⟩ := hc9
      have hz1 := hz.2
      have hS1 : Same muF sc sc1 := Same.tr (by repeat (first | exact Same.rf | refine Same.us rfl ?_)) hs1
      obtain ⟨hv_1, hA_1, hW_1, hWr_1, hD_1, hG_1⟩ := id hM1
      rcases (show z = 0 ∨ z = 1 by have := hz.1 rfl; omega) with rfl | rfl
      · skip
        refine RQ.seg 7 (pc' := 7) (L' := [some (.ref 80), some (.int (iI s1)), some (.int (iI s2)), some (.int (iI 1)), some (.int (iI 0))]) (st' := []) (g1 := (HW sc1 ar 81 oc rl ou tl, q)) rfl ?_
        rw [show rd tp (m + 1) 11 dp a = rsq (rap (rd tp m 4 dp (sk tp a + 1)) (-10)) (rd tp m 11 dp) by show rOl tp (rd tp m) dp a = _; unfold rOl; rw [if_pos (by omega)]]
        rcases Decidable.em ((rd tp m 4 dp (sk tp a + 1)).1 = -1) with he1 | hE1
        · obtain ⟨k1, k2⟩ := hG_1 he1
          have hg : sk tp a + 1 + 1 ≤ (rd tp m 4 dp (sk tp a + 1)).2.1 ∧ _ := ((rd_ok (tp := tp) m).at 4 dp (a := sk tp a + 1) (by omega)).2 he1
          refine RQ.im (l D u dp (rd tp m 4 dp (sk tp a + 1)).2.1 1 s1 s2 _ sc1 oc rl ou tl q hdu hdp hD ⟨hv_1, hA_1, hW_1.trans he1, by show (-1 : Int) ≤ -1 ∧ (-1 : Int) ≤ 160; omega, hD_1, fun _ => ⟨k1, k2⟩⟩ (by show 16 * ((tp.length : Int) - (rd tp m 4 dp (sk tp a + 1)).2.1) + 1 ≤ (m : Int); omega) (by omega)) (fun vv gg hq => ?_)
          obtain ⟨z9, sc9, e9, hz9, e8, hs9, hM9, hev9⟩ := hq
          have eR : rsq (rap (rd tp m 4 dp (sk tp a + 1)) (-10)) (rd tp m 11 dp) = pre ((rd tp m 4 dp (sk tp a + 1)).2.2 ++ [-10]) (rd tp m 11 dp (rd tp m 4 dp (sk tp a + 1)).2.1) := rsq_p (r := rap (rd tp m 4 dp (sk tp a + 1)) (-10)) he1
          rw [eR]
          refine ⟨z9, sc9, e9, hz9, e8, hS1.tr hs9, hM9, fun zz st => ?_⟩
          show ev _ (((rd tp m 4 dp (sk tp a + 1)).2.2 ++ [-10]) ++ (rd tp m 11 dp (rd tp m 4 dp (sk tp a + 1)).2.1).2.2) (1 :: st) = z9 :: st
          rw [ev_app, ev_app, show ev (fun k => ar 84 (kc3 k)) (rd tp m 4 dp (sk tp a + 1)).2.2 (1 :: st) = 0 :: 1 :: st from hev he1 (1 :: st), ev_jn (by omega), show jn (-10) 1 0 = 1 from rfl]
          exact hev9 zz st
        · rw [rsq_b (show ¬ (rap (rd tp m 4 dp (sk tp a + 1)) (-10)).1 = -1 from hE1)]
          have hwn : ¬ sc1 8011 = -1 := by omega
          refine RQ.seg 3 (pc' := 12) (L' := [some (.ref 80), some (.int (iI s1)), some (.int (iI s2)), some (.int (iI 1)), some (.int (iI 0))]) (st' := [.int (iI (-1)), .int (iI (sc1 8011))]) (g1 := (HW sc1 ar 81 oc rl ou tl, q)) rfl ?_
          refine RQ.if2 (a := (sc1 8011)) (b := (-1)) rfl rfl rfl rfl (by omega) (by omega) (fun _ => ?_) (fun (q : ¬ sc1 8011 ≠ (-1)) => absurd (show sc1 8011 ≠ (-1) from by omega) q)
          refine RQ.seg 1 (pc' := 61) (L' := [some (.ref 80), some (.int (iI s1)), some (.int (iI s2)), some (.int (iI 1)), some (.int (iI 0))]) (st' := [.int (iI 1)]) (g1 := (HW sc1 ar 81 oc rl ou tl, q)) rfl ?_
          refine RQ.ret rfl rfl ?_
          exact ⟨_, sc1, rfl, ⟨fun _ => by omega, by omega, by omega⟩, rfl, hS1, hM1, fun z9 => absurd z9 hE1⟩
      · skip
        refine RQ.seg 7 (pc' := 7) (L' := [some (.ref 80), some (.int (iI s1)), some (.int (iI s2)), some (.int (iI 1)), some (.int (iI 1))]) (st' := []) (g1 := (HW sc1 ar 81 oc rl ou tl, q)) rfl ?_
        rw [show rd tp (m + 1) 11 dp a = rsq (rap (rd tp m 4 dp (sk tp a + 1)) (-10)) (rd tp m 11 dp) by show rOl tp (rd tp m) dp a = _; unfold rOl; rw [if_pos (by omega)]]
        rcases Decidable.em ((rd tp m 4 dp (sk tp a + 1)).1 = -1) with he1 | hE1
        · obtain ⟨k1, k2⟩ := hG_1 he1
          have hg : sk tp a + 1 + 1 ≤ (rd tp m 4 dp (sk tp a + 1)).2.1 ∧ _ := ((rd_ok (tp := tp) m).at 4 dp (a := sk tp a + 1) (by omega)).2 he1
          refine RQ.im (l D u dp (rd tp m 4 dp (sk tp a + 1)).2.1 1 s1 s2 _ sc1 oc rl ou tl q hdu hdp hD ⟨hv_1, hA_1, hW_1.trans he1, by show (-1 : Int) ≤ -1 ∧ (-1 : Int) ≤ 160; omega, hD_1, fun _ => ⟨k1, k2⟩⟩ (by show 16 * ((tp.length : Int) - (rd tp m 4 dp (sk tp a + 1)).2.1) + 1 ≤ (m : Int); omega) (by omega)) (fun vv gg hq => ?_)
          obtain ⟨z9, sc9, e9, hz9, e8, hs9, hM9, hev9⟩ := hq
          have eR : rsq (rap (rd tp m 4 dp (sk tp a + 1)) (-10)) (rd tp m 11 dp) = pre ((rd tp m 4 dp (sk tp a + 1)).2.2 ++ [-10]) (rd tp m 11 dp (rd tp m 4 dp (sk tp a + 1)).2.1) := rsq_p (r := rap (rd tp m 4 dp (sk tp a + 1)) (-10)) he1
          rw [eR]
          refine ⟨z9, sc9, e9, hz9, e8, hS1.tr hs9, hM9, fun zz st => ?_⟩
          show ev _ (((rd tp m 4 dp (sk tp a + 1)).2.2 ++ [-10]) ++ (rd tp m 11 dp (rd tp m 4 dp (sk tp a + 1)).2.1).2.2) (1 :: st) = z9 :: st
          rw [ev_app, ev_app, show ev (fun k => ar 84 (kc3 k)) (rd tp m 4 dp (sk tp a + 1)).2.2 (1 :: st) = 1 :: 1 :: st from hev he1 (1 :: st), ev_jn (by omega), show jn (-10) 1 1 = 1 from rfl]
          exact hev9 zz st
        · rw [rsq_b (show ¬ (rap (rd tp m 4 dp (sk tp a + 1)) (-10)).1 = -1 from hE1)]
          have hwn : ¬ sc1 8011 = -1 := by omega
          refine RQ.seg 3 (pc' := 12) (L' := [some (.ref 80), some (.int (iI s1)), some (.int (iI s2)), some (.int (iI 1)), some (.int (iI 1))]) (st' := [.int (iI (-1)), .int (iI (sc1 8011))]) (g1 := (HW sc1 ar 81 oc rl ou tl, q)) rfl ?_
          refine RQ.if2 (a := (sc1 8011)) (b := (-1)) rfl rfl rfl rfl (by omega) (by omega) (fun _ => ?_) (fun (q : ¬ sc1 8011 ≠ (-1)) => absurd (show sc1 8011 ≠ (-1) from by omega) q)
          refine RQ.seg 1 (pc' := 61) (L' := [some (.ref 80), some (.int (iI s1)), some (.int (iI s2)), some (.int (iI 1)), some (.int (iI 1))]) (st' := [.int (iI 1)]) (g1 := (HW sc1 ar 81 oc rl ou tl, q)) rfl ?_
          refine RQ.ret rfl rfl ?_
          exact ⟨_, sc1, rfl, ⟨fun _ => by omega, by omega, by omega⟩, rfl, hS1, hM1, fun z9 => absurd z9 hE1⟩
theorem ms81_4 {K : PK} {tp : List Int} {bg : Int} {ar : Nat → Int → Int} (ht : TpOK tp) {m : Nat} (p : MC K tp bg 160 81 ar m 3 168 9 [] []) (l : ML9_81 K tp bg ar m) : MC K tp bg 160 81 ar (m + 1) 4 169 10 [.int (iI 0), .int (iI 0)] [] := by
  intro D u dp a sc oc rl ou tl q hdu hdp hD hM hF
  have ht1 := ht.1
  obtain ⟨hv, hA, hW, hWr, hDp, hG⟩ := id hM
  obtain ⟨g1, g2⟩ := hG rfl
  replace g1 : sc 8010 = a := g1
  replace hW : sc 8011 = -1 := hW
  have hFu : 16 * ((tp.length : Int) - a) + 5 ≤ ((m + 1 : Nat) : Int) := hF
  refine CQ.of (own := 11) (n := 5) (ini := false) (rt := (some .boolean)) (cd := cd169) (by decide +kernel) rfl (by decide +kernel) rfl (Nat.le_of_ble_eq_true rfl) ?_
  rw [show rd tp (m + 1) 4 dp a = rsq (rd tp m 3 dp a) (rd tp m 9 dp) from rfl]
  refine RQ.seg 3 (pc' := 14) (L' := [some (.ref 80), some (.int (iI 0)), some (.int (iI 0)), none, none]) (st' := [.ref 80]) (g1 := (HW sc ar 81 oc rl ou tl, q)) rfl ?_
  refine RQ.callQ rfl rfl (CQ.up (p (D - 1) u dp a sc oc rl ou tl q hdu hdp (by omega) hM (by show 16 * ((tp.length : Int) - a) + 4 ≤ (m : Int); omega)) (by omega)) (fun rv9 g9 hc9 => ?_)
  obtain ⟨z, sc1, rfl, hz, rfl, hs1, hM1, hev⟩ := hc9
  have hz1 := hz.2
  have hS1 : Same muF sc sc1 := Same.tr (by repeat (first | exact Same.rf | refine Same.us rfl ?_)) hs1
  obtain ⟨hv_1, hA_1, hW_1, hWr_1, hD_1, hG_1⟩ := id hM1
  rcases (show z = 0 ∨ z = 1 by have := hz.1 rfl; omega) with rfl | rfl
  · skip
    refine RQ.seg 1 (pc' := 18) (L' := [some (.ref 80), some (.int (iI 0)), some (.int (iI 0)), some (.int (iI 0)), none]) (st' := []) (g1 := (HW sc1 ar 81 oc rl ou tl, q)) rfl ?_
    rcases Decidable.em ((rd tp m 3 dp a).1 = -1) with he1 | hE1
    · obtain ⟨k1, k2⟩ := hG_1 he1
      have hg : a + 1 ≤ (rd tp m 3 dp a).2.1 ∧ _ := ((rd_ok (tp := tp) m).at 3 dp (a := a) (by omega)).2 he1
      refine RQ.im (l D u dp (rd tp m 3 dp a).2.1 0 0 0 none sc1 oc rl ou tl q hdu hdp hD ⟨hv_1, hA_1, hW_1.trans he1, by show (-1 : Int) ≤ -1 ∧ (-1 : Int) ≤ 160; omega, hD_1, fun _ => ⟨k1, k2⟩⟩ (by show 16 * ((tp.length : Int) - (rd tp m 3 dp a).2.1) + 1 ≤ (m : Int); omega) (by omega)) (fun vv gg hq => ?_)
      obtain ⟨z9, sc9, e9, hz9, e8, hs9, hM9, hev9⟩ := hq
      rw [rsq_p he1]
      refine ⟨z9, sc9, e9, hz9, e8, hs1.tr hs9, hM9, fun zz st => ?_⟩
      show ev _ ((rd tp m 3 dp a).2.2 ++ (rd tp m 9 dp (rd tp m 3 dp a).2.1).2.2) st = z9 :: st
      rw [ev_app, show ev (fun k => ar 84 (kc3 k)) (rd tp m 3 dp a).2.2 st = 0 :: st from hev he1 st]
      exact hev9 zz st
    · rw [rsq_b hE1]
      have hwn : ¬ sc1 8011 = -1 := by omega
      refine RQ.seg 3 (pc' := 23) (L' := [some (.ref 80), some (.int (iI 0)), some (.int (iI 0)), some (.int (iI 0)), none]) (st' := [.int (iI (-1)), .int (iI (sc1 8011))]) (g1 := (HW sc1 ar 81 oc rl ou tl, q)) rfl ?_
      refine RQ.if2 (a := (sc1 8011)) (b := (-1)) rfl rfl rfl rfl (by omega) (by omega) (fun _ => ?_) (fun (q : ¬ sc1 8011 ≠ (-1)) => absurd (show sc1 8011 ≠ (-1) from by omega) q)
      refine RQ.seg 1 (pc' := 70) (L' := [some (.ref 80), some (.int (iI 0)), some (.int (iI 0)), some (.int (iI 0)), none]) (st' := [.int (iI 0)]) (g1 := (HW sc1 ar 81 oc rl ou tl, q)) rfl ?_
      refine RQ.ret rfl rfl ?_
      exact ⟨_, sc1, rfl, ⟨fun _ => by omega, by omega, by omega⟩, rfl, hs1, hM1, fun z9 => absurd z9 hE1⟩
  · skip
    refine RQ.seg 1 (pc' := 18) (L' := [some (.ref 80), some (.int (iI 0)), some (.int (iI 0)), some (.int (iI 1)), none]) (st' := []) (g1 := (HW sc1 ar 81 oc rl ou tl, q)) rfl ?_
    rcases Decidable.em ((rd tp m 3 dp a).1 = -1) with he1 | hE1
    · obtain ⟨k1, k2⟩ := hG_1 he1
      have hg : a + 1 ≤ (rd tp m 3 dp a).2.1 ∧ _ := ((rd_ok (tp := tp) m).at 3 dp (a := a) (by omega)).2 he1
      refine RQ.im (l D u dp (rd tp m 3 dp a).2.1 1 0 0 none sc1 oc rl ou tl q hdu hdp hD ⟨hv_1, hA_1, hW_1.trans he1, by show (-1 : Int) ≤ -1 ∧ (-1 : Int) ≤ 160; omega, hD_1, fun _ => ⟨k1, k2⟩⟩ (by show 16 * ((tp.length : Int) - (rd tp m 3 dp a).2.1) + 1 ≤ (m : Int); omega) (by omega)) (fun vv gg hq => ?_)
      obtain ⟨z9, sc9, e9, hz9, e8, hs9, hM9, hev9⟩ := hq
      rw [rsq_p he1]
      refine ⟨z9, sc9, e9, hz9, e8, hs1.tr hs9, hM9, fun zz st => ?_⟩
      show ev _ ((rd tp m 3 dp a).2.2 ++ (rd tp m 9 dp (rd tp m 3 dp a).2.1).2.2) st = z9 :: st
      rw [ev_app, show ev (fun k => ar 84 (kc3 k)) (rd tp m 3 dp a).2.2 st = 1 :: st from hev he1 st]
      exact hev9 zz st
    · rw [rsq_b hE1]
      have hwn : ¬ sc1 8011 = -1 := by omega
      refine RQ.seg 3 (pc' := 23) (L' := [some (.ref 80), some (.int (iI 0)), some (.int (iI 0)), some (.int (iI 1)), none]) (st' := [.int (iI (-1)), .int (iI (sc1 8011))]) (g1 := (HW sc1 ar 81 oc rl ou tl, q)) rfl ?_
      refine RQ.if2 (a := (sc1 8011)) (b := (-1)) rfl rfl rfl rfl (by omega) (by omega) (fun _ => ?_) (fun (q : ¬ sc1 8011 ≠ (-1)) => absurd (show sc1 8011 ≠ (-1) from by omega) q)
      refine RQ.seg 1 (pc' := 70) (L' := [some (.ref 80), some (.int (iI 0)), some (.int (iI 0)), some (.int (iI 1)), none]) (st' := [.int (iI 1)]) (g1 := (HW sc1 ar 81 oc rl ou tl, q)) rfl ?_
      refine RQ.ret rfl rfl ?_
      exact ⟨_, sc1, rfl, ⟨fun _ => by omega, by omega, by omega⟩, rfl, hs1, hM1, fun z9 => absurd z9 hE1⟩
theorem ms81_10 {K : PK} {tp : List Int} {bg : Int} {ar : Nat → Int → Int} (ht : TpOK tp) {m : Nat} {v : Int} (p : MC K tp bg 160 81 ar m 8 167 8 [.int (iI 1), .int (iI v)] [v]) (l : ML9_81 K tp bg ar m) : MC K tp bg 160 81 ar (m + 1) 10 169 10 [.int (iI 1), .int (iI v)] [v] := by
  intro D u dp a sc oc rl ou tl q hdu hdp hD hM hF
  have ht1 := ht.1
  obtain ⟨hv, hA, hW, hWr, hDp, hG⟩ := id hM
  obtain ⟨g1, g2⟩ := hG rfl
  replace g1 : sc 8010 = a := g1
  replace hW : sc 8011 = -1 := hW
  have hFu : 16 * ((tp.length : Int) - a) + 2 ≤ ((m + 1 : Nat) : Int) := hF
  refine CQ.of (own := 11) (n := 5) (ini := false) (rt := (some .boolean)) (cd := cd169) (by decide +kernel) rfl (by decide +kernel) rfl (Nat.le_of_ble_eq_true rfl) ?_
  rw [show rd tp (m + 1) 10 dp a = rsq (rd tp m 8 dp a) (rd tp m 9 dp) from rfl]
  refine RQ.seg 5 (pc' := 7) (L' := [some (.ref 80), some (.int (iI 1)), some (.int (iI v)), none, none]) (st' := [.int (iI v), .int (iI 1), .ref 80]) (g1 := (HW sc ar 81 oc rl ou tl, q)) rfl ?_
  refine RQ.callQ rfl rfl (CQ.up (p (D - 1) u dp a sc oc rl ou tl q hdu hdp (by omega) hM (by show 16 * ((tp.length : Int) - a) + 1 ≤ (m : Int); omega)) (by omega)) (fun rv9 g9 hc9 => ?_)
  obtain ⟨z, sc1, rfl, hz, rfl, hs1, hM1, hev⟩ := hc9
  have hz1 := hz.2
  have hS1 : Same muF sc sc1 := Same.tr (by repeat (first | exact Same.rf | refine Same.us rfl ?_)) hs1
  obtain ⟨hv_1, hA_1, hW_1, hWr_1, hD_1, hG_1⟩ := id hM1
  rcases (show z = 0 ∨ z = 1 by have := hz.1 rfl; omega) with rfl | rfl
  · skip
    refine RQ.seg 2 (pc' := 18) (L' := [some (.ref 80), some (.int (iI 1)), some (.int (iI v)), some (.int (iI 0)), none]) (st' := []) (g1 := (HW sc1 ar 81 oc rl ou tl, q)) rfl ?_
    rcases Decidable.em ((rd tp m 8 dp a).1 = -1) with he1 | hE1
    · obtain ⟨k1, k2⟩ := hG_1 he1
      have hg : a + 1 ≤ (rd tp m 8 dp a).2.1 ∧ _ := ((rd_ok (tp := tp) m).at 8 dp (a := a) (by omega)).2 he1
      refine RQ.im (l D u dp (rd tp m 8 dp a).2.1 0 1 v none sc1 oc rl ou tl q hdu hdp hD ⟨hv_1, hA_1, hW_1.trans he1, by show (-1 : Int) ≤ -1 ∧ (-1 : Int) ≤ 160; omega, hD_1, fun _ => ⟨k1, k2⟩⟩ (by show 16 * ((tp.length : Int) - (rd tp m 8 dp a).2.1) + 1 ≤ (m : Int); omega) (by omega)) (fun vv gg hq => ?_)
      obtain ⟨z9, sc9, e9, hz9, e8, hs9, hM9, hev9⟩ := hq
      rw [rsq_p he1]
      refine ⟨z9, sc9, e9, hz9, e8, hs1.tr hs9, hM9, fun zz st => ?_⟩
      show ev _ ((rd tp m 8 dp a).2.2 ++ (rd tp m 9 dp (rd tp m 8 dp a).2.1).2.2) (v :: st) = z9 :: st
      rw [ev_app, show ev (fun k => ar 84 (kc3 k)) (rd tp m 8 dp a).2.2 (v :: st) = 0 :: st from hev he1 st]
      exact hev9 zz st
    · rw [rsq_b hE1]
      have hwn : ¬ sc1 8011 = -1 := by omega
      refine RQ.seg 3 (pc' := 23) (L' := [some (.ref 80), some (.int (iI 1)), some (.int (iI v)), some (.int (iI 0)), none]) (st' := [.int (iI (-1)), .int (iI (sc1 8011))]) (g1 := (HW sc1 ar 81 oc rl ou tl, q)) rfl ?_
      refine RQ.if2 (a := (sc1 8011)) (b := (-1)) rfl rfl rfl rfl (by omega) (by omega) (fun _ => ?_) (fun (q : ¬ sc1 8011 ≠ (-1)) => absurd (show sc1 8011 ≠ (-1) from by omega) q)
      refine RQ.seg 1 (pc' := 70) (L' := [some (.ref 80), some (.int (iI 1)), some (.int (iI v)), some (.int (iI 0)), none]) (st' := [.int (iI 0)]) (g1 := (HW sc1 ar 81 oc rl ou tl, q)) rfl ?_
      refine RQ.ret rfl rfl ?_
      exact ⟨_, sc1, rfl, ⟨fun _ => by omega, by omega, by omega⟩, rfl, hs1, hM1, fun z9 => absurd z9 hE1⟩
  · skip
    refine RQ.seg 2 (pc' := 18) (L' := [some (.ref 80), some (.int (iI 1)), some (.int (iI v)), some (.int (iI 1)), none]) (st' := []) (g1 := (HW sc1 ar 81 oc rl ou tl, q)) rfl ?_
    rcases Decidable.em ((rd tp m 8 dp a).1 = -1) with he1 | hE1
    · obtain ⟨k1, k2⟩ := hG_1 he1
      have hg : a + 1 ≤ (rd tp m 8 dp a).2.1 ∧ _ := ((rd_ok (tp := tp) m).at 8 dp (a := a) (by omega)).2 he1
      refine RQ.im (l D u dp (rd tp m 8 dp a).2.1 1 1 v none sc1 oc rl ou tl q hdu hdp hD ⟨hv_1, hA_1, hW_1.trans he1, by show (-1 : Int) ≤ -1 ∧ (-1 : Int) ≤ 160; omega, hD_1, fun _ => ⟨k1, k2⟩⟩ (by show 16 * ((tp.length : Int) - (rd tp m 8 dp a).2.1) + 1 ≤ (m : Int); omega) (by omega)) (fun vv gg hq => ?_)
      obtain ⟨z9, sc9, e9, hz9, e8, hs9, hM9, hev9⟩ := hq
      rw [rsq_p he1]
      refine ⟨z9, sc9, e9, hz9, e8, hs1.tr hs9, hM9, fun zz st => ?_⟩
      show ev _ ((rd tp m 8 dp a).2.2 ++ (rd tp m 9 dp (rd tp m 8 dp a).2.1).2.2) (v :: st) = z9 :: st
      rw [ev_app, show ev (fun k => ar 84 (kc3 k)) (rd tp m 8 dp a).2.2 (v :: st) = 1 :: st from hev he1 st]
      exact hev9 zz st
    · rw [rsq_b hE1]
      have hwn : ¬ sc1 8011 = -1 := by omega
      refine RQ.seg 3 (pc' := 23) (L' := [some (.ref 80), some (.int (iI 1)), some (.int (iI v)), some (.int (iI 1)), none]) (st' := [.int (iI (-1)), .int (iI (sc1 8011))]) (g1 := (HW sc1 ar 81 oc rl ou tl, q)) rfl ?_
      refine RQ.if2 (a := (sc1 8011)) (b := (-1)) rfl rfl rfl rfl (by omega) (by omega) (fun _ => ?_) (fun (q : ¬ sc1 8011 ≠ (-1)) => absurd (show sc1 8011 ≠ (-1) from by omega) q)
      refine RQ.seg 1 (pc' := 70) (L' := [some (.ref 80), some (.int (iI 1)), some (.int (iI v)), some (.int (iI 1)), none]) (st' := [.int (iI 1)]) (g1 := (HW sc1 ar 81 oc rl ou tl, q)) rfl ?_
      refine RQ.ret rfl rfl ?_
      exact ⟨_, sc1, rfl, ⟨fun _ => by omega, by omega, by omega⟩, rfl, hs1, hM1, fun z9 => absurd z9 hE1⟩
theorem ms81_5 {K : PK} {tp : List Int} {bg : Int} {ar : Nat → Int → Int} (ht : TpOK tp) {m : Nat} (p : MC K tp bg 160 81 ar m 4 169 10 [.int (iI 0), .int (iI 0)] []) (l : ML11_81 K tp bg ar m) : MC K tp bg 160 81 ar (m + 1) 5 170 11 [.int (iI 0), .int (iI 0)] [] := by
  intro D u dp a sc oc rl ou tl q hdu hdp hD hM hF
  have ht1 := ht.1
  obtain ⟨hv, hA, hW, hWr, hDp, hG⟩ := id hM
  obtain ⟨g1, g2⟩ := hG rfl
  replace g1 : sc 8010 = a := g1
  replace hW : sc 8011 = -1 := hW
  have hFu : 16 * ((tp.length : Int) - a) + 6 ≤ ((m + 1 : Nat) : Int) := hF
  refine CQ.of (own := 11) (n := 5) (ini := false) (rt := (some .boolean)) (cd := cd170) (by decide +kernel) rfl (by decide +kernel) rfl (Nat.le_of_ble_eq_true rfl) ?_
  rw [show rd tp (m + 1) 5 dp a = rsq (rd tp m 4 dp a) (rd tp m 11 dp) from rfl]
  refine RQ.seg 3 (pc' := 3) (L' := [some (.ref 80), some (.int (iI 0)), some (.int (iI 0)), none, none]) (st' := [.int (iI 0), .int (iI 0), .ref 80]) (g1 := (HW sc ar 81 oc rl ou tl, q)) rfl ?_
  refine RQ.callQ rfl rfl (CQ.up (p (D - 1) u dp a sc oc rl ou tl q hdu hdp (by omega) hM (by show 16 * ((tp.length : Int) - a) + 5 ≤ (m : Int); omega)) (by omega)) (fun rv9 g9 hc9 => ?_)
  obtain ⟨z, sc1, rfl, hz, rfl, hs1, hM1, hev⟩ := hc9
  have hz1 := hz.2
  have hS1 : Same muF sc sc1 := Same.tr (by repeat (first | exact Same.rf | refine Same.us rfl ?_)) hs1
  obtain ⟨hv_1, hA_1, hW_1, hWr_1, hD_1, hG_1⟩ := id hM1
  rcases (show z = 0 ∨ z = 1 by have := hz.1 rfl; omega) with rfl | rfl
  · skip
    refine RQ.seg 1 (pc' := 7) (L' := [some (.ref 80), some (.int (iI 0)), some (.int (iI 0)), some (.int (iI 0)), none]) (st' := []) (g1 := (HW sc1 ar 81 oc rl ou tl, q)) rfl ?_
    rcases Decidable.em ((rd tp m 4 dp a).1 = -1) with he1 | hE1
    · obtain ⟨k1, k2⟩ := hG_1 he1
      have hg : a + 1 ≤ (rd tp m 4 dp a).2.1 ∧ _ := ((rd_ok (tp := tp) m).at 4 dp (a := a) (by omega)).2 he1
      refine RQ.im (l D u dp (rd tp m 4 dp a).2.1 0 0 0 none sc1 oc rl ou tl q hdu hdp hD ⟨hv_1, hA_1, hW_1.trans he1, by show (-1 : Int) ≤ -1 ∧ (-1 : Int) ≤ 160; omega, hD_1, fun _ => ⟨k1, k2⟩⟩ (by show 16 * ((tp.length : Int) - (rd tp m 4 dp a).2.1) + 1 ≤ (m : Int); omega) (by omega)) (fun vv gg hq => ?_)
      obtain ⟨z9, sc9, e9, hz9, e8, hs9, hM9, hev9⟩ := hq
      rw [rsq_p he1]
      refine ⟨z9, sc9, e9, hz9, e8, hs1.tr hs9, hM9, fun zz st => ?_⟩
      show ev _ ((rd tp m 4 dp a).2.2 ++ (rd tp m 11 dp (rd tp m 4 dp a).2.1).2.2) st = z9 :: st
      rw [ev_app, show ev (fun k => ar 84 (kc3 k)) (rd tp m 4 dp a).2.2 st = 0 :: st from hev he1 st]
      exact hev9 zz st
    · rw [rsq_b hE1]
      have hwn : ¬ sc1 8011 = -1 := by omega
      refine RQ.seg 3 (pc' := 12) (L' := [some (.ref 80), some (.int (iI 0)), some (.int (iI 0)), some (.int (iI 0)), none]) (st' := [.int (iI (-1)), .int (iI (sc1 8011))]) (g1 := (HW sc1 ar 81 oc rl ou tl, q)) rfl ?_
      refine RQ.if2 (a := (sc1 8011)) (b := (-1)) rfl rfl rfl rfl (by omega) (by omega) (fun _ => ?_) (fun (q : ¬ sc1 8011 ≠ (-1)) => absurd (show sc1 8011 ≠ (-1) from by omega) q)
      refine RQ.seg 1 (pc' := 61) (L' := [some (.ref 80), some (.int (iI 0)), some (.int (iI 0)), some (.int (iI 0)), none]) (st' := [.int (iI 0)]) (g1 := (HW sc1 ar 81 oc rl ou tl, q)) rfl ?_
      refine RQ.ret rfl rfl ?_
      exact ⟨_, sc1, rfl, ⟨fun _ => by omega, by omega, by omega⟩, rfl, hs1, hM1, fun z9 => absurd z9 hE1⟩
  · skip
    refine RQ.seg 1 (pc' := 7) (L' := [some (.ref 80), some (.int (iI 0)), some (.int (iI 0)), some (.int (iI 1)), none]) (st' := []) (g1 := (HW sc1 ar 81 oc rl ou tl, q)) rfl ?_
    rcases Decidable.em ((rd tp m 4 dp a).1 = -1) with he1 | hE1
    · obtain ⟨k1, k2⟩ := hG_1 he1
      have hg : a + 1 ≤ (rd tp m 4 dp a).2.1 ∧ _ := ((rd_ok (tp := tp) m).at 4 dp (a := a) (by omega)).2 he1
      refine RQ.im (l D u dp (rd tp m 4 dp a).2.1 1 0 0 none sc1 oc rl ou tl q hdu hdp hD ⟨hv_1, hA_1, hW_1.trans he1, by show (-1 : Int) ≤ -1 ∧ (-1 : Int) ≤ 160; omega, hD_1, fun _ => ⟨k1, k2⟩⟩ (by show 16 * ((tp.length : Int) - (rd tp m 4 dp a).2.1) + 1 ≤ (m : Int); omega) (by omega)) (fun vv gg hq => ?_)
      obtain ⟨z9, sc9, e9, hz9, e8, hs9, hM9, hev9⟩ := hq
      rw [rsq_p he1]
      refine ⟨z9, sc9, e9, hz9, e8, hs1.tr hs9, hM9, fun zz st => ?_⟩
      show ev _ ((rd tp m 4 dp a).2.2 ++ (rd tp m 11 dp (rd tp m 4 dp a).2.1).2.2) st = z9 :: st
      rw [ev_app, show ev (fun k => ar 84 (kc3 k)) (rd tp m 4 dp a).2.2 st = 1 :: st from hev he1 st]
      exact hev9 zz st
    · rw [rsq_b hE1]
      have hwn : ¬ sc1 8011 = -1 := by omega
      refine RQ.seg 3 (pc' := 12) (L' := [some (.ref 80), some (.int (iI 0)), some (.int (iI 0)), some (.int (iI 1)), none]) (st' := [.int (iI (-1)), .int (iI (sc1 8011))]) (g1 := (HW sc1 ar 81 oc rl ou tl, q)) rfl ?_
      refine RQ.if2 (a := (sc1 8011)) (b := (-1)) rfl rfl rfl rfl (by omega) (by omega) (fun _ => ?_) (fun (q : ¬ sc1 8011 ≠ (-1)) => absurd (show sc1 8011 ≠ (-1) from by omega) q)
      refine RQ.seg 1 (pc' := 61) (L' := [some (.ref 80), some (.int (iI 0)), some (.int (iI 0)), some (.int (iI 1)), none]) (st' := [.int (iI 1)]) (g1 := (HW sc1 ar 81 oc rl ou tl, q)) rfl ?_
      refine RQ.ret rfl rfl ?_
      exact ⟨_, sc1, rfl, ⟨fun _ => by omega, by omega, by omega⟩, rfl, hs1, hM1, fun z9 => absurd z9 hE1⟩
theorem ms81_12 {K : PK} {tp : List Int} {bg : Int} {ar : Nat → Int → Int} (ht : TpOK tp) {m : Nat} {v : Int} (p : MC K tp bg 160 81 ar m 10 169 10 [.int (iI 1), .int (iI v)] [v]) (l : ML11_81 K tp bg ar m) : MC K tp bg 160 81 ar (m + 1) 12 170 11 [.int (iI 1), .int (iI v)] [v] := by
  intro D u dp a sc oc rl ou tl q hdu hdp hD hM hF
  have ht1 := ht.1
  obtain ⟨hv, hA, hW, hWr, hDp, hG⟩ := id hM
  obtain ⟨g1, g2⟩ := hG rfl
  replace g1 : sc 8010 = a := g1
  replace hW : sc 8011 = -1 := hW
  have hFu : 16 * ((tp.length : Int) - a) + 3 ≤ ((m + 1 : Nat) : Int) := hF
  refine CQ.of (own := 11) (n := 5) (ini := false) (rt := (some .boolean)) (cd := cd170) (by decide +kernel) rfl (by decide +kernel) rfl (Nat.le_of_ble_eq_true rfl) ?_
  rw [show rd tp (m + 1) 12 dp a = rsq (rd tp m 10 dp a) (rd tp m 11 dp) from rfl]
  refine RQ.seg 3 (pc' := 3) (L' := [some (.ref 80), some (.int (iI 1)), some (.int (iI v)), none, none]) (st' := [.int (iI v), .int (iI 1), .ref 80]) (g1 := (HW sc ar 81 oc rl ou tl, q)) rfl ?_
  refine RQ.callQ rfl rfl (CQ.up (p (D - 1) u dp a sc oc rl ou tl q hdu hdp (by omega) hM (by show 16 * ((tp.length : Int) - a) + 2 ≤ (m : Int); omega)) (by omega)) (fun rv9 g9 hc9 => ?_)
  obtain ⟨z, sc1, rfl, hz, rfl, hs1, hM1, hev⟩ := hc9
  have hz1 := hz.2
  have hS1 : Same muF sc sc1 := Same.tr (by repeat (first | exact Same.rf | refine Same.us rfl ?_)) hs1
  obtain ⟨hv_1, hA_1, hW_1, hWr_1, hD_1, hG_1⟩ := id hM1
  rcases (show z = 0 ∨ z = 1 by have := hz.1 rfl; omega) with rfl | rfl
  · skip
    refine RQ.seg 1 (pc' := 7) (L' := [some (.ref 80), some (.int (iI 1)), some (.int (iI v)), some (.int (iI 0)), none]) (st' := []) (g1 := (HW sc1 ar 81 oc rl ou tl, q)) rfl ?_
    rcases Decidable.em ((rd tp m 10 dp a).1 = -1) with he1 | hE1
    · obtain ⟨k1, k2⟩ := hG_1 he1
      have hg : a + 1 ≤ (rd tp m 10 dp a).2.1 ∧ _ := ((rd_ok (tp := tp) m).at 10 dp (a := a) (by omega)).2 he1
      refine RQ.im (l D u dp (rd tp m 10 dp a).2.1 0 1 v none sc1 oc rl ou tl q hdu hdp hD ⟨hv_1, hA_1, hW_1.trans he1, by show (-1 : Int) ≤ -1 ∧ (-1 : Int) ≤ 160; omega, hD_1, fun _ => ⟨k1, k2⟩⟩ (by show 16 * ((tp.length : Int) - (rd tp m 10 dp a).2.1) + 1 ≤ (m : Int); omega) (by omega)) (fun vv gg hq => ?_)
      obtain ⟨z9, sc9, e9, hz9, e8, hs9, hM9, hev9⟩ := hq
      rw [rsq_p he1]
      refine ⟨z9, sc9, e9, hz9, e8, hs1.tr hs9, hM9, fun zz st => ?_⟩
      show ev _ ((rd tp m 10 dp a).2.2 ++ (rd tp m 11 dp (rd tp m 10 dp a).2.1).2.2) (v :: st) = z9 :: st
      rw [ev_app, show ev (fun k => ar 84 (kc3 k)) (rd tp m 10 dp a).2.2 (v :: st) = 0 :: st from hev he1 st]
      exact hev9 zz st
    · rw [rsq_b hE1]
      have hwn : ¬ sc1 8011 = -1 := by omega
      refine RQ.seg 3 (pc' := 12) (L' := [some (.ref 80), some (.int (iI 1)), some (.int (iI v)), some (.int (iI 0)), none]) (st' := [.int (iI (-1)), .int (iI (sc1 8011))]) (g1 := (HW sc1 ar 81 oc rl ou tl, q)) rfl ?_
      refine RQ.if2 (a := (sc1 8011)) (b := (-1)) rfl rfl rfl rfl (by omega) (by omega) (fun _ => ?_) (fun (q : ¬ sc1 8011 ≠ (-1)) => absurd (show sc1 8011 ≠ (-1) from by omega) q)
      refine RQ.seg 1 (pc' := 61) (L' := [some (.ref 80), some (.int (iI 1)), some (.int (iI v)), some (.int (iI 0)), none]) (st' := [.int (iI 0)]) (g1 := (HW sc1 ar 81 oc rl ou tl, q)) rfl ?_
      refine RQ.ret rfl rfl ?_
      exact ⟨_, sc1, rfl, ⟨fun _ => by omega, by omega, by omega⟩, rfl, hs1, hM1, fun z9 => absurd z9 hE1⟩
  · skip
    refine RQ.seg 1 (pc' := 7) (L' := [some (.ref 80), some (.int (iI 1)), some (.int (iI v)), some (.int (iI 1)), none]) (st' := []) (g1 := (HW sc1 ar 81 oc rl ou tl, q)) rfl ?_
    rcases Decidable.em ((rd tp m 10 dp a).1 = -1) with he1 | hE1
    · obtain ⟨k1, k2⟩ := hG_1 he1
      have hg : a + 1 ≤ (rd tp m 10 dp a).2.1 ∧ _ := ((rd_ok (tp := tp) m).at 10 dp (a := a) (by omega)).2 he1
      refine RQ.im (l D u dp (rd tp m 10 dp a).2.1 1 1 v none sc1 oc rl ou tl q hdu hdp hD ⟨hv_1, hA_1, hW_1.trans he1, by show (-1 : Int) ≤ -1 ∧ (-1 : Int) ≤ 160; omega, hD_1, fun _ => ⟨k1, k2⟩⟩ (by show 16 * ((tp.length : Int) - (rd tp m 10 dp a).2.1) + 1 ≤ (m : Int); omega) (by omega)) (fun vv gg hq => ?_)
      obtain ⟨z9, sc9, e9, hz9, e8, hs9, hM9, hev9⟩ := hq
      rw [rsq_p he1]
      refine ⟨z9, sc9, e9, hz9, e8, hs1.tr hs9, hM9, fun zz st => ?_⟩
      show ev _ ((rd tp m 10 dp a).2.2 ++ (rd tp m 11 dp (rd tp m 10 dp a).2.1).2.2) (v :: st) = z9 :: st
      rw [ev_app, show ev (fun k => ar 84 (kc3 k)) (rd tp m 10 dp a).2.2 (v :: st) = 1 :: st from hev he1 st]
      exact hev9 zz st
    · rw [rsq_b hE1]
      have hwn : ¬ sc1 8011 = -1 := by omega
      refine RQ.seg 3 (pc' := 12) (L' := [some (.ref 80), some (.int (iI 1)), some (.int (iI v)), some (.int (iI 1)), none]) (st' := [.int (iI (-1)), .int (iI (sc1 8011))]) (g1 := (HW sc1 ar 81 oc rl ou tl, q)) rfl ?_
      refine RQ.if2 (a := (sc1 8011)) (b := (-1)) rfl rfl rfl rfl (by omega) (by omega) (fun _ => ?_) (fun (q : ¬ sc1 8011 ≠ (-1)) => absurd (show sc1 8011 ≠ (-1) from by omega) q)
      refine RQ.seg 1 (pc' := 61) (L' := [some (.ref 80), some (.int (iI 1)), some (.int (iI v)), some (.int (iI 1)), none]) (st' := [.int (iI 1)]) (g1 := (HW sc1 ar 81 oc rl ou tl, q)) rfl ?_
      refine RQ.ret rfl rfl ?_
      exact ⟨_, sc1, rfl, ⟨fun _ => by omega, by omega, by omega⟩, rfl, hs1, hM1, fun z9 => absurd z9 hE1⟩
def MP_81 (K : PK) (tp : List Int) (bg : Int) (ar : Nat → Int → Int) (m : Nat) : Prop := MC K tp bg 160 81 ar m 0 163 5 [] [] ∧ MC K tp bg 160 81 ar m 1 164 6 [] [] ∧ MC K tp bg 160 81 ar m 2 165 7 [] [] ∧ MC K tp bg 160 81 ar m 3 168 9 [] [] ∧ MC K tp bg 160 81 ar m 4 169 10 [.int (iI 0), .int (iI 0)] [] ∧ MC K tp bg 160 81 ar m 5 170 11 [.int (iI 0), .int (iI 0)] [] ∧ ML6_81 K tp bg ar m ∧ ML7_81 K tp bg ar m ∧ ML8_81 K tp bg ar m ∧ ML9_81 K tp bg ar m ∧ ML11_81 K tp bg ar m ∧ (∀ v : Int, -1000000 ≤ v ∧ v ≤ 1000000 → MC K tp bg 160 81 ar m 10 169 10 [.int (iI 1), .int (iI v)] [v]) ∧ (∀ v : Int, -1000000 ≤ v ∧ v ≤ 1000000 → MC K tp bg 160 81 ar m 12 170 11 [.int (iI 1), .int (iI v)] [v])
theorem mz81 {K : PK} {tp : List Int} {bg : Int} {ar : Nat → Int → Int} {nt k D0 : Nat} {xs : List Value} {ins : List Int} (hn : 1 ≤ nrk nt) : MC K tp bg 160 81 ar 0 nt k D0 xs ins := by
  intro D u dp a sc oc rl ou tl q hdu hdp hD hM hF
  exfalso
  obtain ⟨hv, hA, hW, hWr, hDp, hG⟩ := id hM
  have g1 : sc 8010 = a := (hG rfl).1
  have hFu : 16 * ((tp.length : Int) - a) + nrk nt ≤ ((0 : Nat) : Int) := hF
  omega
theorem mzl81_6 {K : PK} {tp : List Int} {bg : Int} {ar : Nat → Int → Int} : ML6_81 K tp bg ar 0 := by
  intro D u dp a v e2 e3 e4 sc oc rl ou tl q hdu hdp hD hM hF rv
  exfalso
  obtain ⟨hv, hA, hW, hWr, hDp, hG⟩ := id hM
  have g1 : sc 8010 = a := (hG rfl).1
  have hFu : 16 * ((tp.length : Int) - a) + 1 ≤ ((0 : Nat) : Int) := hF
  omega
theorem mzl81_7 {K : PK} {tp : List Int} {bg : Int} {ar : Nat → Int → Int} : ML7_81 K tp bg ar 0 := by
  intro D u dp a v e2 e3 e4 sc oc rl ou tl q hdu hdp hD hM hF rv
  exfalso
  obtain ⟨hv, hA, hW, hWr, hDp, hG⟩ := id hM
  have g1 : sc 8010 = a := (hG rfl).1
  have hFu : 16 * ((tp.length : Int) - a) + 1 ≤ ((0 : Nat) : Int) := hF
  omega
theorem mzl81_8 {K : PK} {tp : List Int} {bg : Int} {ar : Nat → Int → Int} : ML8_81 K tp bg ar 0 := by
  intro D u dp a v s1 s2 e4 e5 sc oc rl ou tl q hdu hdp hD hM hF rv
  exfalso
  obtain ⟨hv, hA, hW, hWr, hDp, hG⟩ := id hM
  have g1 : sc 8010 = a := (hG rfl).1
  have hFu : 16 * ((tp.length : Int) - a) + 1 ≤ ((0 : Nat) : Int) := hF
  omega
theorem mzl81_9 {K : PK} {tp : List Int} {bg : Int} {ar : Nat → Int → Int} : ML9_81 K tp bg ar 0 := by
  intro D u dp a v s1 s2 e4 sc oc rl ou tl q hdu hdp hD hM hF rv
  exfalso
  obtain ⟨hv, hA, hW, hWr, hDp, hG⟩ := id hM
  have g1 : sc 8010 = a := (hG rfl).1
  have hFu : 16 * ((tp.length : Int) - a) + 1 ≤ ((0 : Nat) : Int) := hF
  omega
theorem mzl81_11 {K : PK} {tp : List Int} {bg : Int} {ar : Nat → Int → Int} : ML11_81 K tp bg ar 0 := by
  intro D u dp a v s1 s2 e4 sc oc rl ou tl q hdu hdp hD hM hF rv
  exfalso
  obtain ⟨hv, hA, hW, hWr, hDp, hG⟩ := id hM
  have g1 : sc 8010 = a := (hG rfl).1
  have hFu : 16 * ((tp.length : Int) - a) + 1 ≤ ((0 : Nat) : Int) := hF
  omega
theorem mp81_all {K : PK} {tp : List Int} {bg : Int} {ar : Nat → Int → Int} (ht : TpOK tp) (hL : LtOK ar) : ∀ m, MP_81 K tp bg ar m
  | 0 => ⟨mz81 (by decide), mz81 (by decide), mz81 (by decide), mz81 (by decide), mz81 (by decide), mz81 (by decide), mzl81_6, mzl81_7, mzl81_8, mzl81_9, mzl81_11, fun _ _ => mz81 (by decide), fun _ _ => mz81 (by decide)⟩
  | m + 1 => by
    obtain ⟨p0, p1, p2, p3, p4, p5, l6, l7, l8, l9, l11, p10, p12⟩ := mp81_all ht hL m
    exact ⟨ms81_0 ht hL p2, ms81_1 ht p0 l6, ms81_2 ht p1 l7, ms81_3 ht p2 l8 p3 p5, ms81_4 ht p3 l9, ms81_5 ht p4 l11, ml81_6 ht p0 l6, ml81_7 ht p1 l7, ml81_8 ht p2, ml81_9 ht p3 l9, ml81_11 ht p4 l11, fun v rv => ms81_10 ht (mc81_8 ht l8 rv) l9, fun v rv => ms81_12 ht (p10 v rv) l11⟩
theorem mc82_8 {K : PK} {tp : List Int} {bg : Int} {ar : Nat → Int → Int} (ht : TpOK tp) {m : Nat} (l8 : ML8_82 K tp bg ar m) {v : Int} (rv : -1000000 ≤ v ∧ v ≤ 1000000) : MC K tp bg 640 82 ar m 8 167 8 [.int (iI 1), .int (iI v)] [v] := by
  intro D u dp a sc oc rl ou tl q hdu hdp hD hM hF
  refine CQ.of (own := 11) (n := 6) (ini := false) (rt := (some .boolean)) (cd := cd167) (by decide +kernel) rfl (by decide +kernel) rfl (Nat.le_of_ble_eq_true rfl) ?_
  refine RQ.seg 5 (pc' := 13) (L' := [some (.ref 80), some (.int (iI 1)), some (.int (iI v)), some (.int (iI v)), none, none]) (st' := []) (g1 := (HW sc ar 82 oc rl ou tl, q)) rfl ?_
  exact l8 D u dp a v 1 v none none sc oc rl ou tl q hdu hdp hD hM hF rv
theorem mc82_28 {K : PK} {tp : List Int} {bg : Int} {ar : Nat → Int → Int} (ht : TpOK tp) {m : Nat} (p2 : MC K tp bg 640 82 ar m 2 165 7 [] []) (l8 : ML8_82 K tp bg ar m) : ∀ (D u : Nat) (dp a : Int) (sc : Nat → Int) (oc : Nat) (rl : Nat → Option Nat) (ou : Nat → Int64) (tl : List PO) (q : Nat × Nat), dp + u = 6 → 0 ≤ dp → 6 * u + 8 ≤ D → MX tp bg 640 (-1, a, []) dp sc (ar 82) → 16 * ((tp.length : Int) - a) + 3 ≤ (m : Int) → CQ K (D + 1) 167 [.ref 80, .int (iI 0), .int (iI 0)] (HW sc ar 82 oc rl ou tl, q) (QM tp bg 640 82 8 (rsq (rd tp m 2 dp a) (rd tp m 8 dp)) dp [] sc ar oc rl ou tl q) := by
  intro D u dp a sc oc rl ou tl q hdu hdp hD hM hF
  have ht1 := ht.1
  obtain ⟨hv, hA, hW, hWr, hDp, hG⟩ := id hM
  obtain ⟨g1, g2⟩ := hG rfl
  replace g1 : sc 8010 = a := g1
  replace hW : sc 8011 = -1 := hW
  refine CQ.of (own := 11) (n := 6) (ini := false) (rt := (some .boolean)) (cd := cd167) (by decide +kernel) rfl (by decide +kernel) rfl (Nat.le_of_ble_eq_true rfl) ?_
  refine RQ.seg 3 (pc' := 9) (L' := [some (.ref 80), some (.int (iI 0)), some (.int (iI 0)), none, none, none]) (st' := [.ref 80]) (g1 := (HW sc ar 82 oc rl ou tl, q)) rfl ?_
  refine RQ.callQ rfl rfl (CQ.up (p2 (D - 1) u dp a sc oc rl ou tl q hdu hdp (by omega) hM hF) (by omega)) (fun rv9 g9 hc9 => ?_)
  obtain ⟨z, sc1, rfl, hz, rfl, hs1, hM1, hev⟩ := hc9
  have hz1 := hz.2
  have hS1 : Same muF sc sc1 := Same.tr (by repeat (first | exact Same.rf | refine Same.us rfl ?_)) hs1
  obtain ⟨hv_1, hA_1, hW_1, hWr_1, hD_1, hG_1⟩ := id hM1
  refine RQ.seg 1 (pc' := 13) (L' := [some (.ref 80), some (.int (iI 0)), some (.int (iI 0)), some (.int (iI z)), none, none]) (st' := []) (g1 := (HW sc1 ar 82 oc rl ou tl, q)) rfl ?_
  rcases Decidable.em ((rd tp m 2 dp a).1 = -1) with he1 | hE1
  · obtain ⟨k1, k2⟩ := hG_1 he1
    have hg : a + 1 ≤ (rd tp m 2 dp a).2.1 ∧ _ := ((rd_ok (tp := tp) m).at 2 dp (a := a) (by omega)).2 he1
    refine RQ.im (l8 D u dp (rd tp m 2 dp a).2.1 z 0 0 none none sc1 oc rl ou tl q hdu hdp hD ⟨hv_1, hA_1, hW_1.trans he1, by show (-1 : Int) ≤ -1 ∧ (-1 : Int) ≤ 160; omega, hD_1, fun _ => ⟨k1, k2⟩⟩ (by show 16 * ((tp.length : Int) - (rd tp m 2 dp a).2.1) + 1 ≤ (m : Int); omega) hz1) (fun vv gg hq => ?_)
    obtain ⟨z9, sc9, e9, hz9, e8, hs9, hM9, hev9⟩ := hq
    rw [rsq_p he1]
    refine ⟨z9, sc9, e9, hz9, e8, hs1.tr hs9, hM9, fun zz st => ?_⟩
    show ev _ ((rd tp m 2 dp a).2.2 ++ (rd tp m 8 dp (rd tp m 2 dp a).2.1).2.2) st = z9 :: st
    rw [ev_app, show ev (fun k => ar 84 (kc3 k)) (rd tp m 2 dp a).2.2 st = z :: st from hev he1 st]
    exact hev9 zz st
  · rw [rsq_b hE1]
    have hwn : ¬ sc1 8011 = -1 := by omega
    refine RQ.seg 3 (pc' := 18) (L' := [some (.ref 80), some (.int (iI 0)), some (.int (iI 0)), some (.int (iI z)), none, none]) (st' := [.int (iI (-1)), .int (iI (sc1 8011))]) (g1 := (HW sc1 ar 82 oc rl ou tl, q)) rfl ?_
    refine RQ.if2 (a := (sc1 8011)) (b := (-1)) rfl rfl rfl rfl (by omega) (by omega) (fun (q : sc1 8011 = (-1)) => absurd q (show ¬ sc1 8011 = (-1) from by omega)) (fun _ => ?_)
    refine RQ.seg 1 (pc' := 22) (L' := [some (.ref 80), some (.int (iI 0)), some (.int (iI 0)), some (.int (iI z)), none, none]) (st' := [.int (iI 0)]) (g1 := (HW sc1 ar 82 oc rl ou tl, q)) rfl ?_
    refine RQ.ret rfl rfl ?_
    exact ⟨0, sc1, rfl, ⟨fun _ => by omega, by omega, by omega⟩, rfl, hs1, hM1, fun z9 => absurd z9 hE1⟩
theorem ms82_3 {K : PK} {tp : List Int} {bg : Int} {ar : Nat → Int → Int} (ht : TpOK tp) {m : Nat} (p2 : MC K tp bg 640 82 ar m 2 165 7 [] []) (l8 : ML8_82 K tp bg ar m) (p3 : MC K tp bg 640 82 ar m 3 168 9 [] []) (p5 : MC K tp bg 640 82 ar m 5 170 11 [.int (iI 0), .int (iI 0)] []) : MC K tp bg 640 82 ar (m + 1) 3 168 9 [] [] := by
  intro D u dp a sc oc rl ou tl q hdu hdp hD hM hF
  have ht1 := ht.1
  obtain ⟨hv, hA, hW, hWr, hDp, hG⟩ := id hM
  obtain ⟨g1, g2⟩ := hG rfl
  replace g1 : sc 8010 = a := g1
  replace hW : sc 8011 = -1 := hW
  have hFu : 16 * ((tp.length : Int) - a) + 4 ≤ ((m + 1 : Nat) : Int) := hF
  have hsk := sk_r (tp := tp) (p := a) (by omega)
  have hlk : 0 ≤ lk tp a ∧ lk tp a ≤ 255 := tch_r ht (sk tp a)
  have hlm := lkm_r hlk
  refine CQ.of (own := 11) (n := 3) (ini := false) (rt := (some .boolean)) (cd := cd168) (by decide +kernel) rfl (by decide +kernel) rfl (Nat.le_of_ble_eq_true rfl) ?_
  refine RQ.seg 1 (pc' := 1) (L' := [some (.ref 80), none, none]) (st' := [.ref 80]) (g1 := (HW sc ar 82 oc rl ou tl, q)) rfl ?_
  refine RQ.call rfl rfl (CallR.up (d := 1) (m_look82 (d := 0) (sc := sc) (ar := ar) (a := a) ht hv g1 (by omega)) (by omega)) ?_
  refine RQ.seg 3 (pc' := 8) (L' := [some (.ref 80), some (.int (iI (lkm (lk tp a)))), none]) (st' := [.int (iI 33), .int (iI (lkm (lk tp a)))]) (g1 := (HW (usc sc 8010 (sk tp a)) ar 82 oc rl ou tl, q)) rfl ?_
  refine RQ.if2 (a := (lkm (lk tp a))) (b := 33) rfl rfl rfl rfl (by omega) (by omega) (fun (h1 : lkm (lk tp a) ≠ 33) => ?_) (fun (h1 : ¬ lkm (lk tp a) ≠ 33) => ?_)
  · skip
    refine RQ.seg 2 (pc' := 48) (L' := [some (.ref 80), some (.int (iI (lkm (lk tp a)))), none]) (st' := [.int (iI 40), .int (iI (lkm (lk tp a)))]) (g1 := (HW (usc sc 8010 (sk tp a)) ar 82 oc rl ou tl, q)) rfl ?_
    refine RQ.if2 (a := (lkm (lk tp a))) (b := 40) rfl rfl rfl rfl (by omega) (by omega) (fun (h2 : lkm (lk tp a) ≠ 40) => ?_) (fun (h2 : ¬ lkm (lk tp a) ≠ 40) => ?_)
    · skip
      refine RQ.seg 3 (pc' := 93) (L' := [some (.ref 80), some (.int (iI (lkm (lk tp a)))), none]) (st' := [.int (iI 0), .int (iI 0), .ref 80]) (g1 := (HW (usc sc 8010 (sk tp a)) ar 82 oc rl ou tl, q)) rfl ?_
      refine RQ.callQ rfl rfl (CQ.up (mc82_28 ht p2 l8 (D - 1) u dp (sk tp a) (usc sc 8010 (sk tp a)) oc rl ou tl q hdu hdp (by omega) ⟨hv, by show 0 ≤ sk tp a ∧ sk tp a ≤ _; omega, hW, hWr, hDp, fun _ => ⟨rfl, g2⟩⟩ (by omega)) (by omega)) (fun rv9 g9 hc9 => ?_)
      obtain ⟨z, sc1, rfl, hz, rfl, hs1, hM1, hev⟩ := hc9
      have hz1 := hz.2
      have hS1 : Same muF sc sc1 := Same.tr (by repeat (first | exact Same.rf | refine Same.us rfl ?_)) hs1
      obtain ⟨hv_1, hA_1, hW_1, hWr_1, hD_1, hG_1⟩ := id hM1
      rcases (show z = 0 ∨ z = 1 by have := hz.1 rfl; omega) with rfl | rfl
      · skip
        refine RQ.ret rfl rfl ?_
        rw [show rd tp (m + 1) 3 dp a = rsq (rd tp m 2 dp a) (rd tp m 8 dp) by show rUnit tp (rd tp m) dp a = _; unfold rUnit; rw [if_neg (by omega), if_neg (by omega)]]
        rw [rd_sk] at hev hM1
        exact ⟨0, sc1, rfl, ⟨fun _ => by omega, by omega, by omega⟩, rfl, hS1, hM1, hev⟩
      · skip
        refine RQ.ret rfl rfl ?_
        rw [show rd tp (m + 1) 3 dp a = rsq (rd tp m 2 dp a) (rd tp m 8 dp) by show rUnit tp (rd tp m) dp a = _; unfold rUnit; rw [if_neg (by omega), if_neg (by omega)]]
        rw [rd_sk] at hev hM1
        exact ⟨1, sc1, rfl, ⟨fun _ => by omega, by omega, by omega⟩, rfl, hS1, hM1, hev⟩
    · skip
      refine RQ.seg 1 (pc' := 52) (L' := [some (.ref 80), some (.int (iI (lkm (lk tp a)))), none]) (st' := [.ref 80]) (g1 := (HW (usc sc 8010 (sk tp a)) ar 82 oc rl ou tl, q)) rfl ?_
      have hps := lk_in (tp := tp) (a := a) (by omega) (by omega)
      rcases Decidable.em (dp < 6) with hd6 | hd6
      · refine RQ.call rfl rfl (CallR.up (d := 2) (m_goes82t (d := 0) (sc := usc sc 8010 (sk tp a)) (ar := ar) (dp := dp) g2 (by omega) (by show 0 ≤ sk tp a ∧ sk tp a ≤ 160; omega) hW hd6) (by omega)) ?_
        refine RQ.hp (g1 := (HW (usc (usc sc 8010 (sk tp a + 1)) 8012 (dp + 1)) ar 82 oc rl ou tl, q)) (HW_e (by rw [usc_uu _ 8010 _ _]; try rfl) rfl) ?_
        refine RQ.seg 4 (pc' := 63) (L' := [some (.ref 80), some (.int (iI (lkm (lk tp a)))), none]) (st' := [.int (iI 0), .int (iI 0), .ref 80]) (g1 := (HW (usc (usc sc 8010 (sk tp a + 1)) 8012 (dp + 1)) ar 82 oc rl ou tl, q)) rfl ?_
        refine RQ.callQ rfl rfl (CQ.up (p5 (D - 1) (u - 1) (dp + 1) (sk tp a + 1) (usc (usc sc 8010 (sk tp a + 1)) 8012 (dp + 1)) oc rl ou tl q (by omega) (by omega) (by omega) ⟨hv, by show 0 ≤ sk tp a + 1 ∧ sk tp a + 1 ≤ _; omega, hW, hWr, by show dp + 1 ≤ dp + 1 ∧ dp + 1 ≤ 6; omega, fun _ => ⟨rfl, rfl⟩⟩ (by show 16 * ((tp.length : Int) - (sk tp a + 1)) + 6 ≤ (m : Int); omega)) (by omega)) (fun rv9 g9 hc9 => ?_)
        obtain ⟨z, sc1, rfl, hz, rfl, hs1, hM1, hev⟩ := hc9
        have hz1 := hz.2
        have hS1 : Same muF sc sc1 := Same.tr (by repeat (first | exact Same.rf | refine Same.us rfl ?_)) hs1
        obtain ⟨hv_1, hA_1, hW_1, hWr_1, hD_1, hG_1⟩ := id hM1
        rcases (show z = 0 ∨ z = 1 by have := hz.1 rfl; omega) with rfl | rfl
        · skip
          refine RQ.seg 3 (pc' := 70) (L' := [some (.ref 80), some (.int (iI (lkm (lk tp a)))), some (.int (iI 0))]) (st' := [.int (iI 41), .ref 80]) (g1 := (HW sc1 ar 82 oc rl ou tl, q)) rfl ?_
          refine RQ.callQ rfl rfl (CQ.up (m_takes82 (d := 0) (c := 41) ht hM1 (by omega)) (by omega)) (fun rv9 g9 hc8 => ?_)
          obtain ⟨rfl, sc2, rfl, hs2, hM2⟩ := hc8
          obtain ⟨hv_2, hA_2, hW_2, hWr_2, hD_2, hG_2⟩ := id hM2
          rw [show rd tp (m + 1) 3 dp a = rsq (rd tp m 5 (dp + 1) (sk tp a + 1)) (rex tp 41) by show rUnit tp (rd tp m) dp a = _; unfold rUnit; rw [if_neg (by omega), if_pos (by omega), if_pos hd6]]
          rcases Decidable.em ((rsq (rd tp m 5 (dp + 1) (sk tp a + 1)) (rex tp 41)).1 = -1) with hr9 | hr9
          · skip
            rw [if_pos hr9]
            have hd2 : sc2 8012 = dp + 1 := (hG_2 hr9).2
            refine RQ.seg 6 (pc' := 85) (L' := [some (.ref 80), some (.int (iI (lkm (lk tp a)))), some (.int (iI 0))]) (st' := [.int ((iI (sc2 8012)) - (iI 1)), .ref 80]) (g1 := (HW sc2 ar 82 oc rl ou tl, q)) rfl ?_
            refine RQ.to (L' := [some (.ref 80), some (.int (iI (lkm (lk tp a)))), some (.int (iI 0))]) (st' := [.int (iI (sc2 8012 - 1)), .ref 80]) rfl (by simp only [iI_add, iI_sub, iI_mul, iI_neg]) ?_
            refine RQ.seg 2 (pc' := 89) (L' := [some (.ref 80), some (.int (iI (lkm (lk tp a)))), some (.int (iI 0))]) (st' := [.int (iI 0)]) (g1 := (HW (usc sc2 8012 (sc2 8012 - 1)) ar 82 oc rl ou tl, q)) rfl ?_
            refine RQ.ret rfl rfl ?_
            refine ⟨0, _, rfl, ⟨fun _ => by omega, by omega, by omega⟩, rfl, hS1.tr (hs2.tr (by repeat (first | exact Same.rf | refine Same.us rfl ?_))), ⟨hv_2, hA_2, hW_2, hWr_2, by show dp ≤ sc2 8012 - 1 ∧ sc2 8012 - 1 ≤ 6; omega, fun _ => ⟨(hG_2 hr9).1, by show sc2 8012 - 1 = dp; omega⟩⟩, fun _ st => ?_⟩
            obtain ⟨i1, i2, i3⟩ := rsq_i hr9
            rw [i3, rex_c, List.append_nil]
            exact hev i1 st
          · skip
            rw [if_neg hr9]
            refine RQ.seg 2 (pc' := 77) (L' := [some (.ref 80), some (.int (iI (lkm (lk tp a)))), some (.int (iI 0))]) (st' := [.int (iI 0)]) (g1 := (HW sc2 ar 82 oc rl ou tl, q)) rfl ?_
            refine RQ.ret rfl rfl ?_
            exact ⟨0, _, rfl, ⟨fun _ => by omega, by omega, by omega⟩, rfl, hS1.tr hs2, ⟨hv_2, hA_2, hW_2, hWr_2, ⟨by omega, hD_2.2⟩, fun z => absurd z hr9⟩, fun z => absurd z hr9⟩
        · skip
          refine RQ.seg 3 (pc' := 70) (L' := [some (.ref 80), some (.int (iI (lkm (lk tp a)))), some (.int (iI 1))]) (st' := [.int (iI 41), .ref 80]) (g1 := (HW sc1 ar 82 oc rl ou tl, q)) rfl ?_
          refine RQ.callQ rfl rfl (CQ.up (m_takes82 (d := 0) (c := 41) ht hM1 (by omega)) (by omega)) (fun rv9 g9 hc8 => ?_)
          obtain ⟨rfl, sc2, rfl, hs2, hM2⟩ := hc8
          obtain ⟨hv_2, hA_2, hW_2, hWr_2, hD_2, hG_2⟩ := id hM2
          rw [show rd tp (m + 1) 3 dp a = rsq (rd tp m 5 (dp + 1) (sk tp a + 1)) (rex tp 41) by show rUnit tp (rd tp m) dp a = _; unfold rUnit; rw [if_neg (by omega), if_pos (by omega), if_pos hd6]]
          rcases Decidable.em ((rsq (rd tp m 5 (dp + 1) (sk tp a + 1)) (rex tp 41)).1 = -1) with hr9 | hr9
          · skip
            rw [if_pos hr9]
            have hd2 : sc2 8012 = dp + 1 := (hG_2 hr9).2
            refine RQ.seg 6 (pc' := 85) (L' := [some (.ref 80), some (.int (iI (lkm (lk tp a)))), some (.int (iI 1))]) (st' := [.int ((iI (sc2 8012)) - (iI 1)), .ref 80]) (g1 := (HW sc2 ar 82 oc rl ou tl, q)) rfl ?_
            refine RQ.to (L' := [some (.ref 80), some (.int (iI (lkm (lk tp a)))), some (.int (iI 1))]) (st' := [.int (iI (sc2 8012 - 1)), .ref 80]) rfl (by simp only [iI_add, iI_sub, iI_mul, iI_neg]) ?_
            refine RQ.seg 2 (pc' := 89) (L' := [some (.ref 80), some (.int (iI (lkm (lk tp a)))), some (.int (iI 1))]) (st' := [.int (iI 1)]) (g1 := (HW (usc sc2 8012 (sc2 8012 - 1)) ar 82 oc rl ou tl, q)) rfl ?_
            refine RQ.ret rfl rfl ?_
            refine ⟨1, _, rfl, ⟨fun _ => by omega, by omega, by omega⟩, rfl, hS1.tr (hs2.tr (by repeat (first | exact Same.rf | refine Same.us rfl ?_))), ⟨hv_2, hA_2, hW_2, hWr_2, by show dp ≤ sc2 8012 - 1 ∧ sc2 8012 - 1 ≤ 6; omega, fun _ => ⟨(hG_2 hr9).1, by show sc2 8012 - 1 = dp; omega⟩⟩, fun _ st => ?_⟩
            obtain ⟨i1, i2, i3⟩ := rsq_i hr9
            rw [i3, rex_c, List.append_nil]
            exact hev i1 st
          · skip
            rw [if_neg hr9]
            refine RQ.seg 2 (pc' := 77) (L' := [some (.ref 80), some (.int (iI (lkm (lk tp a)))), some (.int (iI 1))]) (st' := [.int (iI 0)]) (g1 := (HW sc2 ar 82 oc rl ou tl, q)) rfl ?_
            refine RQ.ret rfl rfl ?_
            exact ⟨0, _, rfl, ⟨fun _ => by omega, by omega, by omega⟩, rfl, hS1.tr hs2, ⟨hv_2, hA_2, hW_2, hWr_2, ⟨by omega, hD_2.2⟩, fun z => absurd z hr9⟩, fun z => absurd z hr9⟩
      · refine RQ.call rfl rfl (CallR.up (d := 2) (m_goes82f (d := 0) (sc := usc sc 8010 (sk tp a)) (ar := ar) (dp := dp) g2 (by omega) (by show 0 ≤ sk tp a ∧ sk tp a ≤ 160; omega) hW hd6) (by omega)) ?_
        refine RQ.seg 2 (pc' := 59) (L' := [some (.ref 80), some (.int (iI (lkm (lk tp a)))), none]) (st' := [.int (iI 0)]) (g1 := (HW (usc (usc sc 8010 (sk tp a)) 8011 (sk tp a)) ar 82 oc rl ou tl, q)) rfl ?_
        refine RQ.ret rfl rfl ?_
        rw [show rd tp (m + 1) 3 dp a = rno tp a by show rUnit tp (rd tp m) dp a = _; unfold rUnit; rw [if_neg (by omega), if_pos (by omega), if_neg hd6]]
        exact ⟨0, _, rfl, ⟨fun _ => by omega, by omega, by omega⟩, rfl, (by repeat (first | exact Same.rf | refine Same.us rfl ?_)), ⟨hv, by show 0 ≤ sk tp a ∧ sk tp a ≤ _; omega, rfl, by show -1 ≤ sk tp a ∧ sk tp a ≤ 160; omega, hDp, fun z => absurd (show sk tp a = -1 from z) (by omega)⟩, fun z => absurd (show sk tp a = -1 from z) (by omega)⟩
  · skip
    refine RQ.seg 1 (pc' := 12) (L' := [some (.ref 80), some (.int (iI (lkm (lk tp a)))), none]) (st' := [.ref 80]) (g1 := (HW (usc sc 8010 (sk tp a)) ar 82 oc rl ou tl, q)) rfl ?_
    have hps := lk_in (tp := tp) (a := a) (by omega) (by omega)
    rcases Decidable.em (dp < 6) with hd6 | hd6
    · refine RQ.call rfl rfl (CallR.up (d := 2) (m_goes82t (d := 0) (sc := usc sc 8010 (sk tp a)) (ar := ar) (dp := dp) g2 (by omega) (by show 0 ≤ sk tp a ∧ sk tp a ≤ 160; omega) hW hd6) (by omega)) ?_
      refine RQ.hp (g1 := (HW (usc (usc sc 8010 (sk tp a + 1)) 8012 (dp + 1)) ar 82 oc rl ou tl, q)) (HW_e (by rw [usc_uu _ 8010 _ _]; try rfl) rfl) ?_
      refine RQ.seg 2 (pc' := 21) (L' := [some (.ref 80), some (.int (iI (lkm (lk tp a)))), none]) (st' := [.ref 80]) (g1 := (HW (usc (usc sc 8010 (sk tp a + 1)) 8012 (dp + 1)) ar 82 oc rl ou tl, q)) rfl ?_
      refine RQ.callQ rfl rfl (CQ.up (p3 (D - 1) (u - 1) (dp + 1) (sk tp a + 1) (usc (usc sc 8010 (sk tp a + 1)) 8012 (dp + 1)) oc rl ou tl q (by omega) (by omega) (by omega) ⟨hv, by show 0 ≤ sk tp a + 1 ∧ sk tp a + 1 ≤ _; omega, hW, hWr, by show dp + 1 ≤ dp + 1 ∧ dp + 1 ≤ 6; omega, fun _ => ⟨rfl, rfl⟩⟩ (by show 16 * ((tp.length : Int) - (sk tp a + 1)) + 4 ≤ (m : Int); omega)) (by omega)) (fun rv9 g9 hc9 => ?_)
      obtain ⟨z, sc1, rfl, hz, rfl, hs1, hM1, hev⟩ := hc9
      have hz1 := hz.2
      have hS1 : Same muF sc sc1 := Same.tr (by repeat (first | exact Same.rf | refine Same.us rfl ?_)) hs1
      obtain ⟨hv_1, hA_1, hW_1, hWr_1, hD_1, hG_1⟩ := id hM1
      rcases (show z = 0 ∨ z = 1 by have := hz.1 rfl; omega) with rfl | rfl
      · skip
        refine RQ.seg 6 (pc' := 32) (L' := [some (.ref 80), some (.int (iI (lkm (lk tp a)))), some (.int (iI 0))]) (st' := [.int ((iI (sc1 8012)) - (iI 1)), .ref 80]) (g1 := (HW sc1 ar 82 oc rl ou tl, q)) rfl ?_
        refine RQ.to (L' := [some (.ref 80), some (.int (iI (lkm (lk tp a)))), some (.int (iI 0))]) (st' := [.int (iI (sc1 8012 - 1)), .ref 80]) rfl (by simp only [iI_add, iI_sub, iI_mul, iI_neg]) ?_
        refine RQ.seg 5 (pc' := 44) (L' := [some (.ref 80), some (.int (iI (lkm (lk tp a)))), some (.int (iI 0))]) (st' := [.int (iI 1)]) (g1 := (HW (usc sc1 8012 (sc1 8012 - 1)) ar 82 oc rl ou tl, q)) rfl ?_
        refine RQ.ret rfl rfl ?_
        rw [show rd tp (m + 1) 3 dp a = rap (rd tp m 3 (dp + 1) (sk tp a + 1)) (-8) by show rUnit tp (rd tp m) dp a = _; unfold rUnit; rw [if_pos (by omega), if_pos hd6]]
        refine ⟨1, _, rfl, ⟨fun _ => by omega, by omega, by omega⟩, rfl, hS1.tr (by repeat (first | exact Same.rf | refine Same.us rfl ?_)), ⟨hv_1, hA_1, hW_1, hWr_1, by show dp ≤ sc1 8012 - 1 ∧ sc1 8012 - 1 ≤ 6; omega, fun e => ⟨(hG_1 e).1, by show sc1 8012 - 1 = dp; have := (hG_1 e).2; omega⟩⟩, fun e st => ?_⟩
        show ev _ ((rd tp m 3 (dp + 1) (sk tp a + 1)).2.2 ++ [-8]) st = 1 :: st
        rw [ev_app, show ev (fun k => ar 84 (kc3 k)) (rd tp m 3 (dp + 1) (sk tp a + 1)).2.2 st = 0 :: st from hev e st]; rfl
      · skip
        refine RQ.seg 6 (pc' := 32) (L' := [some (.ref 80), some (.int (iI (lkm (lk tp a)))), some (.int (iI 1))]) (st' := [.int ((iI (sc1 8012)) - (iI 1)), .ref 80]) (g1 := (HW sc1 ar 82 oc rl ou tl, q)) rfl ?_
        refine RQ.to (L' := [some (.ref 80), some (.int (iI (lkm (lk tp a)))), some (.int (iI 1))]) (st' := [.int (iI (sc1 8012 - 1)), .ref 80]) rfl (by simp only [iI_add, iI_sub, iI_mul, iI_neg]) ?_
        refine RQ.seg 4 (pc' := 44) (L' := [some (.ref 80), some (.int (iI (lkm (lk tp a)))), some (.int (iI 1))]) (st' := [.int (iI 0)]) (g1 := (HW (usc sc1 8012 (sc1 8012 - 1)) ar 82 oc rl ou tl, q)) rfl ?_
        refine RQ.ret rfl rfl ?_
        rw [show rd tp (m + 1) 3 dp a = rap (rd tp m 3 (dp + 1) (sk tp a + 1)) (-8) by show rUnit tp (rd tp m) dp a = _; unfold rUnit; rw [if_pos (by omega), if_pos hd6]]
        refine ⟨0, _, rfl, ⟨fun _ => by omega, by omega, by omega⟩, rfl, hS1.tr (by repeat (first | exact Same.rf | refine Same.us rfl ?_)), ⟨hv_1, hA_1, hW_1, hWr_1, by show dp ≤ sc1 8012 - 1 ∧ sc1 8012 - 1 ≤ 6; omega, fun e => ⟨(hG_1 e).1, by show sc1 8012 - 1 = dp; have := (hG_1 e).2; omega⟩⟩, fun e st => ?_⟩
        show ev _ ((rd tp m 3 (dp + 1) (sk tp a + 1)).2.2 ++ [-8]) st = 0 :: st
        rw [ev_app, show ev (fun k => ar 84 (kc3 k)) (rd tp m 3 (dp + 1) (sk tp a + 1)).2.2 st = 1 :: st from hev e st]; rfl
    · refine RQ.call rfl rfl (CallR.up (d := 2) (m_goes82f (d := 0) (sc := usc sc 8010 (sk tp a)) (ar := ar) (dp := dp) g2 (by omega) (by show 0 ≤ sk tp a ∧ sk tp a ≤ 160; omega) hW hd6) (by omega)) ?_
      refine RQ.seg 2 (pc' := 19) (L' := [some (.ref 80), some (.int (iI (lkm (lk tp a)))), none]) (st' := [.int (iI 0)]) (g1 := (HW (usc (usc sc 8010 (sk tp a)) 8011 (sk tp a)) ar 82 oc rl ou tl, q)) rfl ?_
      refine RQ.ret rfl rfl ?_
      rw [show rd tp (m + 1) 3 dp a = rno tp a by show rUnit tp (rd tp m) dp a = _; unfold rUnit; rw [if_pos (by omega), if_neg hd6]]
      exact ⟨0, _, rfl, ⟨fun _ => by omega, by omega, by omega⟩, rfl, (by repeat (first | exact Same.rf | refine Same.us rfl ?_)), ⟨hv, by show 0 ≤ sk tp a ∧ sk tp a ≤ _; omega, rfl, by show -1 ≤ sk tp a ∧ sk tp a ≤ 160; omega, hDp, fun z => absurd (show sk tp a = -1 from z) (by omega)⟩, fun z => absurd (show sk tp a = -1 from z) (by omega)⟩
def ML9_82 (K : PK) (tp : List Int) (bg : Int) (ar : Nat → Int → Int) (m : Nat) : Prop := ∀ (D u : Nat) (dp a v s1 s2 : Int) (e4 : Option Value) (sc : Nat → Int) (oc : Nat) (rl : Nat → Option Nat) (ou : Nat → Int64) (tl : List PO) (q : Nat × Nat), dp + u = 6 → 0 ≤ dp → 6 * u + 10 ≤ D → MX tp bg 640 (-1, a, []) dp sc (ar 82) → Fu tp m 9 a → (0 ≤ v ∧ v ≤ 1) → RQ K D 11 false (some .boolean) cd169 18 [some (.ref 80), some (.int (iI s1)), some (.int (iI s2)), some (.int (iI v)), e4] [] (HW sc ar 82 oc rl ou tl, q) (QM tp bg 640 82 9 (rd tp m 9 dp a) dp [v] sc ar oc rl ou tl q)
theorem ml82_9 {K : PK} {tp : List Int} {bg : Int} {ar : Nat → Int → Int} (ht : TpOK tp) {m : Nat} (p : MC K tp bg 640 82 ar m 3 168 9 [] []) (l : ML9_82 K tp bg ar m) : ML9_82 K tp bg ar (m + 1) := by
  intro D u dp a v s1 s2 e4 sc oc rl ou tl q hdu hdp hD hM hF rv
  have ht1 := ht.1
  obtain ⟨hv, hA, hW, hWr, hDp, hG⟩ := id hM
  obtain ⟨g1, g2⟩ := hG rfl
  replace g1 : sc 8010 = a := g1
  replace hW : sc 8011 = -1 := hW
  have hFu : 16 * ((tp.length : Int) - a) + 1 ≤ ((m + 1 : Nat) : Int) := hF
  have hsk := sk_r (tp := tp) (p := a) (by omega)
  have hlk : 0 ≤ lk tp a ∧ lk tp a ≤ 255 := tch_r ht (sk tp a)
  have hlm := lkm_r hlk
  rcases (show v = 0 ∨ v = 1 by omega) with rfl | rfl
  · skip
    refine RQ.seg 3 (pc' := 23) (L' := [some (.ref 80), some (.int (iI s1)), some (.int (iI s2)), some (.int (iI 0)), e4]) (st' := [.int (iI (-1)), .int (iI (sc 8011))]) (g1 := (HW sc ar 82 oc rl ou tl, q)) rfl ?_
    refine RQ.if2 (a := (sc 8011)) (b := (-1)) rfl rfl rfl rfl (by omega) (by omega) (fun (q : sc 8011 ≠ (-1)) => absurd q (show ¬ sc 8011 ≠ (-1) from by omega)) (fun _ => ?_)
    refine RQ.seg 1 (pc' := 27) (L' := [some (.ref 80), some (.int (iI s1)), some (.int (iI s2)), some (.int (iI 0)), e4]) (st' := [.ref 80]) (g1 := (HW sc ar 82 oc rl ou tl, q)) rfl ?_
    refine RQ.call rfl rfl (CallR.up (d := 1) (m_look82 (d := 0) (sc := sc) (ar := ar) (a := a) ht hv g1 (by omega)) (by omega)) ?_
    refine RQ.seg 1 (pc' := 32) (L' := [some (.ref 80), some (.int (iI s1)), some (.int (iI s2)), some (.int (iI 0)), e4]) (st' := [.int (iI 38), .int (iI (lkm (lk tp a)))]) (g1 := (HW (usc sc 8010 (sk tp a)) ar 82 oc rl ou tl, q)) rfl ?_
    refine RQ.if2 (a := (lkm (lk tp a))) (b := 38) rfl rfl rfl rfl (by omega) (by omega) (fun (h2 : lkm (lk tp a) ≠ 38) => ?_) (fun (h2 : ¬ lkm (lk tp a) ≠ 38) => ?_)
    · skip
      refine RQ.seg 1 (pc' := 70) (L' := [some (.ref 80), some (.int (iI s1)), some (.int (iI s2)), some (.int (iI 0)), e4]) (st' := [.int (iI 0)]) (g1 := (HW (usc sc 8010 (sk tp a)) ar 82 oc rl ou tl, q)) rfl ?_
      refine RQ.ret rfl rfl ?_
      rw [show rd tp (m + 1) 9 dp a = (-1, sk tp a, []) by show rAl tp (rd tp m) dp a = _; unfold rAl; rw [if_neg (by omega)]]
      exact ⟨0, _, rfl, ⟨fun _ => by omega, by omega, by omega⟩, rfl, (by repeat (first | exact Same.rf | refine Same.us rfl ?_)), ⟨hv, by show 0 ≤ sk tp a ∧ sk tp a ≤ _; omega, hW, hWr, hDp, fun _ => ⟨rfl, g2⟩⟩, fun _ st => rfl⟩
    · skip
      refine RQ.seg 5 (pc' := 42) (L' := [some (.ref 80), some (.int (iI s1)), some (.int (iI s2)), some (.int (iI 0)), e4]) (st' := [.int ((iI (sk tp a)) + (iI 1)), .ref 80]) (g1 := (HW (usc sc 8010 (sk tp a)) ar 82 oc rl ou tl, q)) rfl ?_
      refine RQ.to (L' := [some (.ref 80), some (.int (iI s1)), some (.int (iI s2)), some (.int (iI 0)), e4]) (st' := [.int (iI (sk tp a + 1)), .ref 80]) rfl (by simp only [iI_add, iI_sub, iI_mul, iI_neg]) ?_
      refine RQ.seg 2 (pc' := 46) (L' := [some (.ref 80), some (.int (iI s1)), some (.int (iI s2)), some (.int (iI 0)), e4]) (st' := [.ref 80]) (g1 := (HW (usc sc 8010 (sk tp a + 1)) ar 82 oc rl ou tl, q)) rfl ?_
      have hps := lk_in (tp := tp) (a := a) (by omega) (by omega)
      refine RQ.callQ rfl rfl (CQ.up (p (D - 1) u dp (sk tp a + 1) (usc sc 8010 (sk tp a + 1)) oc rl ou tl q hdu hdp (by omega) ⟨hv, by show 0 ≤ sk tp a + 1 ∧ sk tp a + 1 ≤ _; omega, hW, hWr, hDp, fun _ => ⟨rfl, g2⟩⟩ (by show 16 * ((tp.length : Int) - (sk tp a + 1)) + 4 ≤ (m : Int); omega)) (by omega)) (fun rv9 g9 hc9 => ?_)
      obtain ⟨z, sc1, rfl, hz, rfl, hs1, hM1, hev⟩ := hc9
      have hz1 := hz.2
      have hS1 : Same muF sc sc1 := Same.tr (by repeat (first | exact Same.rf | refine Same.us rfl ?_)) hs1
      obtain ⟨hv_1, hA_1, hW_1, hWr_1, hD_1, hG_1⟩ := id hM1
      rcases (show z = 0 ∨ z = 1 by have := hz.1 rfl; omega) with rfl | rfl
      · skip
        refine RQ.seg 6 (pc' := 18) (L' := [some (.ref 80), some (.int (iI s1)), some (.int (iI s2)), some (.int (iI 0)), some (.int (iI 0))]) (st' := []) (g1 := (HW sc1 ar 82 oc rl ou tl, q)) rfl ?_
        rw [show rd tp (m + 1) 9 dp a = rsq (rap (rd tp m 3 dp (sk tp a + 1)) (-9)) (rd tp m 9 dp) by show rAl tp (rd tp m) dp a = _; unfold rAl; rw [if_pos (by omega)]]
        rcases Decidable.em ((rd tp m 3 dp (sk tp a + 1)).1 = -1) with he1 | hE1
        · obtain ⟨k1, k2⟩ := hG_1 he1
          have hg : sk tp a + 1 + 1 ≤ (rd tp m 3 dp (sk tp a + 1)).2.1 ∧ _ := ((rd_ok (tp := tp) m).at 3 dp (a := sk tp a + 1) (by omega)).2 he1
          refine RQ.im (l D u dp (rd tp m 3 dp (sk tp a + 1)).2.1 0 s1 s2 _ sc1 oc rl ou tl q hdu hdp hD ⟨hv_1, hA_1, hW_1.trans he1, by show (-1 : Int) ≤ -1 ∧ (-1 : Int) ≤ 160; omega, hD_1, fun _ => ⟨k1, k2⟩⟩ (by show 16 * ((tp.length : Int) - (rd tp m 3 dp (sk tp a + 1)).2.1) + 1 ≤ (m : Int); omega) (by omega)) (fun vv gg hq => ?_)
          obtain ⟨z9, sc9, e9, hz9, e8, hs9, hM9, hev9⟩ := hq
          have eR : rsq (rap (rd tp m 3 dp (sk tp a + 1)) (-9)) (rd tp m 9 dp) = pre ((rd tp m 3 dp (sk tp a + 1)).2.2 ++ [-9]) (rd tp m 9 dp (rd tp m 3 dp (sk tp a + 1)).2.1) := rsq_p (r := rap (rd tp m 3 dp (sk tp a + 1)) (-9)) he1
          rw [eR]
          refine ⟨z9, sc9, e9, hz9, e8, hS1.tr hs9, hM9, fun zz st => ?_⟩
          show ev _ (((rd tp m 3 dp (sk tp a + 1)).2.2 ++ [-9]) ++ (rd tp m 9 dp (rd tp m 3 dp (sk tp a + 1)).2.1).2.2) (0 :: st) = z9 :: st
          rw [ev_app, ev_app, show ev (fun k => ar 84 (kc3 k)) (rd tp m 3 dp (sk tp a + 1)).2.2 (0 :: st) = 0 :: 0 :: st from hev he1 (0 :: st), ev_jn (by omega), show jn (-9) 0 0 = 0 from rfl]
          exact hev9 zz st
        · rw [rsq_b (show ¬ (rap (rd tp m 3 dp (sk tp a + 1)) (-9)).1 = -1 from hE1)]
          have hwn : ¬ sc1 8011 = -1 := by omega
          refine RQ.seg 3 (pc' := 23) (L' := [some (.ref 80), some (.int (iI s1)), some (.int (iI s2)), some (.int (iI 0)), some (.int (iI 0))]) (st' := [.int (iI (-1)), .int (iI (sc1 8011))]) (g1 := (HW sc1 ar 82 oc rl ou tl, q)) rfl ?_
          refine RQ.if2 (a := (sc1 8011)) (b := (-1)) rfl rfl rfl rfl (by omega) (by omega) (fun _ => ?_) (fun (q : ¬ sc1 8011 ≠ (-1)) => absurd (show sc1 8011 ≠ (-1) from by omega) q)
          refine RQ.seg 1 (pc' := 70) (L' := [some (.ref 80), some (.int (iI s1)), some (.int (iI s2)), some (.int (iI 0)), some (.int (iI 0))]) (st' := [.int (iI 0)]) (g1 := (HW sc1 ar 82 oc rl ou tl, q)) rfl ?_
          refine RQ.ret rfl rfl ?_
          exact ⟨_, sc1, rfl, ⟨fun _ => by omega, by omega, by omega⟩, rfl, hS1, hM1, fun z9 => absurd z9 hE1⟩
      · skip
        refine RQ.seg 6 (pc' := 18) (L' := [some (.ref 80), some (.int (iI s1)), some (.int (iI s2)), some (.int (iI 0)), some (.int (iI 1))]) (st' := []) (g1 := (HW sc1 ar 82 oc rl ou tl, q)) rfl ?_
        rw [show rd tp (m + 1) 9 dp a = rsq (rap (rd tp m 3 dp (sk tp a + 1)) (-9)) (rd tp m 9 dp) by show rAl tp (rd tp m) dp a = _; unfold rAl; rw [if_pos (by omega)]]
        rcases Decidable.em ((rd tp m 3 dp (sk tp a + 1)).1 = -1) with he1 | hE1
        · obtain ⟨k1, k2⟩ := hG_1 he1
          have hg : sk tp a + 1 + 1 ≤ (rd tp m 3 dp (sk tp a + 1)).2.1 ∧ _ := ((rd_ok (tp := tp) m).at 3 dp (a := sk tp a + 1) (by omega)).2 he1
          refine RQ.im (l D u dp (rd tp m 3 dp (sk tp a + 1)).2.1 0 s1 s2 _ sc1 oc rl ou tl q hdu hdp hD ⟨hv_1, hA_1, hW_1.trans he1, by show (-1 : Int) ≤ -1 ∧ (-1 : Int) ≤ 160; omega, hD_1, fun _ => ⟨k1, k2⟩⟩ (by show 16 * ((tp.length : Int) - (rd tp m 3 dp (sk tp a + 1)).2.1) + 1 ≤ (m : Int); omega) (by omega)) (fun vv gg hq => ?_)
          obtain ⟨z9, sc9, e9, hz9, e8, hs9, hM9, hev9⟩ := hq
          have eR : rsq (rap (rd tp m 3 dp (sk tp a + 1)) (-9)) (rd tp m 9 dp) = pre ((rd tp m 3 dp (sk tp a + 1)).2.2 ++ [-9]) (rd tp m 9 dp (rd tp m 3 dp (sk tp a + 1)).2.1) := rsq_p (r := rap (rd tp m 3 dp (sk tp a + 1)) (-9)) he1
          rw [eR]
          refine ⟨z9, sc9, e9, hz9, e8, hS1.tr hs9, hM9, fun zz st => ?_⟩
          show ev _ (((rd tp m 3 dp (sk tp a + 1)).2.2 ++ [-9]) ++ (rd tp m 9 dp (rd tp m 3 dp (sk tp a + 1)).2.1).2.2) (0 :: st) = z9 :: st
          rw [ev_app, ev_app, show ev (fun k => ar 84 (kc3 k)) (rd tp m 3 dp (sk tp a + 1)).2.2 (0 :: st) = 1 :: 0 :: st from hev he1 (0 :: st), ev_jn (by omega), show jn (-9) 0 1 = 0 from rfl]
          exact hev9 zz st
        · rw [rsq_b (show ¬ (rap (rd tp m 3 dp (sk tp a + 1)) (-9)).1 = -1 from hE1)]
          have hwn : ¬ sc1 8011 = -1 := by omega
          refine RQ.seg 3 (pc' := 23) (L' := [some (.ref 80), some (.int (iI s1)), some (.int (iI s2)), some (.int (iI 0)), some (.int (iI 1))]) (st' := [.int (iI (-1)), .int (iI (sc1 8011))]) (g1 := (HW sc1 ar 82 oc rl ou tl, q)) rfl ?_
          refine RQ.if2 (a := (sc1 8011)) (b := (-1)) rfl rfl rfl rfl (by omega) (by omega) (fun _ => ?_) (fun (q : ¬ sc1 8011 ≠ (-1)) => absurd (show sc1 8011 ≠ (-1) from by omega) q)
          refine RQ.seg 1 (pc' := 70) (L' := [some (.ref 80), some (.int (iI s1)), some (.int (iI s2)), some (.int (iI 0)), some (.int (iI 1))]) (st' := [.int (iI 0)]) (g1 := (HW sc1 ar 82 oc rl ou tl, q)) rfl ?_
          refine RQ.ret rfl rfl ?_
          exact ⟨_, sc1, rfl, ⟨fun _ => by omega, by omega, by omega⟩, rfl, hS1, hM1, fun z9 => absurd z9 hE1⟩
  · skip
    refine RQ.seg 3 (pc' := 23) (L' := [some (.ref 80), some (.int (iI s1)), some (.int (iI s2)), some (.int (iI 1)), e4]) (st' := [.int (iI (-1)), .int (iI (sc 8011))]) (g1 := (HW sc ar 82 oc rl ou tl, q)) rfl ?_
    refine RQ.if2 (a := (sc 8011)) (b := (-1)) rfl rfl rfl rfl (by omega) (by omega) (fun (q : sc 8011 ≠ (-1)) => absurd q (show ¬ sc 8011 ≠ (-1) from by omega)) (fun _ => ?_)
    refine RQ.seg 1 (pc' := 27) (L' := [some (.ref 80), some (.int (iI s1)), some (.int (iI s2)), some (.int (iI 1)), e4]) (st' := [.ref 80]) (g1 := (HW sc ar 82 oc rl ou tl, q)) rfl ?_
    refine RQ.call rfl rfl (CallR.up (d := 1) (m_look82 (d := 0) (sc := sc) (ar := ar) (a := a) ht hv g1 (by omega)) (by omega)) ?_
    refine RQ.seg 1 (pc' := 32) (L' := [some (.ref 80), some (.int (iI s1)), some (.int (iI s2)), some (.int (iI 1)), e4]) (st' := [.int (iI 38), .int (iI (lkm (lk tp a)))]) (g1 := (HW (usc sc 8010 (sk tp a)) ar 82 oc rl ou tl, q)) rfl ?_
    refine RQ.if2 (a := (lkm (lk tp a))) (b := 38) rfl rfl rfl rfl (by omega) (by omega) (fun (h2 : lkm (lk tp a) ≠ 38) => ?_) (fun (h2 : ¬ lkm (lk tp a) ≠ 38) => ?_)
    · skip
      refine RQ.seg 1 (pc' := 70) (L' := [some (.ref 80), some (.int (iI s1)), some (.int (iI s2)), some (.int (iI 1)), e4]) (st' := [.int (iI 1)]) (g1 := (HW (usc sc 8010 (sk tp a)) ar 82 oc rl ou tl, q)) rfl ?_
      refine RQ.ret rfl rfl ?_
      rw [show rd tp (m + 1) 9 dp a = (-1, sk tp a, []) by show rAl tp (rd tp m) dp a = _; unfold rAl; rw [if_neg (by omega)]]
      exact ⟨1, _, rfl, ⟨fun _ => by omega, by omega, by omega⟩, rfl, (by repeat (first | exact Same.rf | refine Same.us rfl ?_)), ⟨hv, by show 0 ≤ sk tp a ∧ sk tp a ≤ _; omega, hW, hWr, hDp, fun _ => ⟨rfl, g2⟩⟩, fun _ st => rfl⟩
    · skip
      refine RQ.seg 5 (pc' := 42) (L' := [some (.ref 80), some (.int (iI s1)), some (.int (iI s2)), some (.int (iI 1)), e4]) (st' := [.int ((iI (sk tp a)) + (iI 1)), .ref 80]) (g1 := (HW (usc sc 8010 (sk tp a)) ar 82 oc rl ou tl, q)) rfl ?_
      refine RQ.to (L' := [some (.ref 80), some (.int (iI s1)), some (.int (iI s2)), some (.int (iI 1)), e4]) (st' := [.int (iI (sk tp a + 1)), .ref 80]) rfl (by simp only [iI_add, iI_sub, iI_mul, iI_neg]) ?_
      refine RQ.seg 2 (pc' := 46) (L' := [some (.ref 80), some (.int (iI s1)), some (.int (iI s2)), some (.int (iI 1)), e4]) (st' := [.ref 80]) (g1 := (HW (usc sc 8010 (sk tp a + 1)) ar 82 oc rl ou tl, q)) rfl ?_
      have hps := lk_in (tp := tp) (a := a) (by omega) (by omega)
      refine RQ.callQ rfl rfl (CQ.up (p (D - 1) u dp (sk tp a + 1) (usc sc 8010 (sk tp a + 1)) oc rl ou tl q hdu hdp (by omega) ⟨hv, by show 0 ≤ sk tp a + 1 ∧ sk tp a + 1 ≤ _; omega, hW, hWr, hDp, fun _ => ⟨rfl, g2⟩⟩ (by show 16 * ((tp.length : Int) - (sk tp a + 1)) + 4 ≤ (m : Int); omega)) (by omega)) (fun rv9 g9 hc9 => ?_)
      obtain ⟨z, sc1, rfl, hz, rfl, hs1, hM1, hev⟩ := hc9
      have hz1 := hz.2
      have hS1 : Same muF sc sc1 := Same.tr (by repeat (first | exact Same.rf | refine Same.us rfl ?_)) hs1
      obtain ⟨hv_1, hA_1, hW_1, hWr_1, hD_1, hG_1⟩ := id hM1
      rcases (show z = 0 ∨ z = 1 by have := hz.1 rfl; omega) with rfl | rfl
      · skip
        refine RQ.seg 8 (pc' := 18) (L' := [some (.ref 80), some (.int (iI s1)), some (.int (iI s2)), some (.int (iI 0)), some (.int (iI 0))]) (st' := []) (g1 := (HW sc1 ar 82 oc rl ou tl, q)) rfl ?_
        rw [show rd tp (m + 1) 9 dp a = rsq (rap (rd tp m 3 dp (sk tp a + 1)) (-9)) (rd tp m 9 dp) by show rAl tp (rd tp m) dp a = _; unfold rAl; rw [if_pos (by omega)]]
        rcases Decidable.em ((rd tp m 3 dp (sk tp a + 1)).1 = -1) with he1 | hE1
        · obtain ⟨k1, k2⟩ := hG_1 he1
          have hg : sk tp a + 1 + 1 ≤ (rd tp m 3 dp (sk tp a + 1)).2.1 ∧ _ := ((rd_ok (tp := tp) m).at 3 dp (a := sk tp a + 1) (by omega)).2 he1
          refine RQ.im (l D u dp (rd tp m 3 dp (sk tp a + 1)).2.1 0 s1 s2 _ sc1 oc rl ou tl q hdu hdp hD ⟨hv_1, hA_1, hW_1.trans he1, by show (-1 : Int) ≤ -1 ∧ (-1 : Int) ≤ 160; omega, hD_1, fun _ => ⟨k1, k2⟩⟩ (by show 16 * ((tp.length : Int) - (rd tp m 3 dp (sk tp a + 1)).2.1) + 1 ≤ (m : Int); omega) (by omega)) (fun vv gg hq => ?_)
          obtain ⟨z9, sc9, e9, hz9, e8, hs9, hM9, hev9⟩ := hq
          have eR : rsq (rap (rd tp m 3 dp (sk tp a + 1)) (-9)) (rd tp m 9 dp) = pre ((rd tp m 3 dp (sk tp a + 1)).2.2 ++ [-9]) (rd tp m 9 dp (rd tp m 3 dp (sk tp a + 1)).2.1) := rsq_p (r := rap (rd tp m 3 dp (sk tp a + 1)) (-9)) he1
          rw [eR]
          refine ⟨z9, sc9, e9, hz9, e8, hS1.tr hs9, hM9, fun zz st => ?_⟩
          show ev _ (((rd tp m 3 dp (sk tp a + 1)).2.2 ++ [-9]) ++ (rd tp m 9 dp (rd tp m 3 dp (sk tp a + 1)).2.1).2.2) (1 :: st) = z9 :: st
          rw [ev_app, ev_app, show ev (fun k => ar 84 (kc3 k)) (rd tp m 3 dp (sk tp a + 1)).2.2 (1 :: st) = 0 :: 1 :: st from hev he1 (1 :: st), ev_jn (by omega), show jn (-9) 1 0 = 0 from rfl]
          exact hev9 zz st
        · rw [rsq_b (show ¬ (rap (rd tp m 3 dp (sk tp a + 1)) (-9)).1 = -1 from hE1)]
          have hwn : ¬ sc1 8011 = -1 := by omega
          refine RQ.seg 3 (pc' := 23) (L' := [some (.ref 80), some (.int (iI s1)), some (.int (iI s2)), some (.int (iI 0)), some (.int (iI 0))]) (st' := [.int (iI (-1)), .int (iI (sc1 8011))]) (g1 := (HW sc1 ar 82 oc rl ou tl, q)) rfl ?_
          refine RQ.if2 (a := (sc1 8011)) (b := (-1)) rfl rfl rfl rfl (by omega) (by omega) (fun _ => ?_) (fun (q : ¬ sc1 8011 ≠ (-1)) => absurd (show sc1 8011 ≠ (-1) from by omega) q)
          refine RQ.seg 1 (pc' := 70) (L' := [some (.ref 80), some (.int (iI s1)), some (.int (iI s2)), some (.int (iI 0)), some (.int (iI 0))]) (st' := [.int (iI 0)]) (g1 := (HW sc1 ar 82 oc rl ou tl, q)) rfl ?_
          refine RQ.ret rfl rfl ?_
          exact ⟨_, sc1, rfl, ⟨fun _ => by omega, by omega, by omega⟩, rfl, hS1, hM1, fun z9 => absurd z9 hE1⟩
      · skip
        refine RQ.seg 9 (pc' := 18) (L' := [some (.ref 80), some (.int (iI s1)), some (.int (iI s2)), some (.int (iI 1)), some (.int (iI 1))]) (st' := []) (g1 := (HW sc1 ar 82 oc rl ou tl, q)) rfl ?_
        rw [show rd tp (m + 1) 9 dp a = rsq (rap (rd tp m 3 dp (sk tp a + 1)) (-9)) (rd tp m 9 dp) by show rAl tp (rd tp m) dp a = _; unfold rAl; rw [if_pos (by omega)]]
        rcases Decidable.em ((rd tp m 3 dp (sk tp a + 1)).1 = -1) with he1 | hE1
        · obtain ⟨k1, k2⟩ := hG_1 he1
          have hg : sk tp a + 1 + 1 ≤ (rd tp m 3 dp (sk tp a + 1)).2.1 ∧ _ := ((rd_ok (tp := tp) m).at 3 dp (a := sk tp a + 1) (by omega)).2 he1
          refine RQ.im (l D u dp (rd tp m 3 dp (sk tp a + 1)).2.1 1 s1 s2 _ sc1 oc rl ou tl q hdu hdp hD ⟨hv_1, hA_1, hW_1.trans he1, by show (-1 : Int) ≤ -1 ∧ (-1 : Int) ≤ 160; omega, hD_1, fun _ => ⟨k1, k2⟩⟩ (by show 16 * ((tp.length : Int) - (rd tp m 3 dp (sk tp a + 1)).2.1) + 1 ≤ (m : Int); omega) (by omega)) (fun vv gg hq => ?_)
          obtain ⟨z9, sc9, e9, hz9, e8, hs9, hM9, hev9⟩ := hq
          have eR : rsq (rap (rd tp m 3 dp (sk tp a + 1)) (-9)) (rd tp m 9 dp) = pre ((rd tp m 3 dp (sk tp a + 1)).2.2 ++ [-9]) (rd tp m 9 dp (rd tp m 3 dp (sk tp a + 1)).2.1) := rsq_p (r := rap (rd tp m 3 dp (sk tp a + 1)) (-9)) he1
          rw [eR]
          refine ⟨z9, sc9, e9, hz9, e8, hS1.tr hs9, hM9, fun zz st => ?_⟩
          show ev _ (((rd tp m 3 dp (sk tp a + 1)).2.2 ++ [-9]) ++ (rd tp m 9 dp (rd tp m 3 dp (sk tp a + 1)).2.1).2.2) (1 :: st) = z9 :: st
          rw [ev_app, ev_app, show ev (fun k => ar 84 (kc3 k)) (rd tp m 3 dp (sk tp a + 1)).2.2 (1 :: st) = 1 :: 1 :: st from hev he1 (1 :: st), ev_jn (by omega), show jn (-9) 1 1 = 1 from rfl]
          exact hev9 zz st
        · rw [rsq_b (show ¬ (rap (rd tp m 3 dp (sk tp a + 1)) (-9)).1 = -1 from hE1)]
          have hwn : ¬ sc1 8011 = -1 := by omega
          refine RQ.seg 3 (pc' := 23) (L' := [some (.ref 80), some (.int (iI s1)), some (.int (iI s2)), some (.int (iI 1)), some (.int (iI 1))]) (st' := [.int (iI (-1)), .int (iI (sc1 8011))]) (g1 := (HW sc1 ar 82 oc rl ou tl, q)) rfl ?_
          refine RQ.if2 (a := (sc1 8011)) (b := (-1)) rfl rfl rfl rfl (by omega) (by omega) (fun _ => ?_) (fun (q : ¬ sc1 8011 ≠ (-1)) => absurd (show sc1 8011 ≠ (-1) from by omega) q)
          refine RQ.seg 1 (pc' := 70) (L' := [some (.ref 80), some (.int (iI s1)), some (.int (iI s2)), some (.int (iI 1)), some (.int (iI 1))]) (st' := [.int (iI 1)]) (g1 := (HW sc1 ar 82 oc rl ou tl, q)) rfl ?_
          refine RQ.ret rfl rfl ?_
          exact ⟨_, sc1, rfl, ⟨fun _ => by omega, by omega, by omega⟩, rfl, hS1, hM1, fun z9 => absurd z9 hE1⟩
def ML11_82 (K : PK) (tp : List Int) (bg : Int) (ar : Nat → Int → Int) (m : Nat) : Prop := ∀ (D u : Nat) (dp a v s1 s2 : Int) (e4 : Option Value) (sc : Nat → Int) (oc : Nat) (rl : Nat → Option Nat) (ou : Nat → Int64) (tl : List PO) (q : Nat × Nat), dp + u = 6 → 0 ≤ dp → 6 * u + 11 ≤ D → MX tp bg 640 (-1, a, []) dp sc (ar 82) → Fu tp m 11 a → (0 ≤ v ∧ v ≤ 1) → RQ K D 11 false (some .boolean) cd170 7 [some (.ref 80), some (.int (iI s1)), some (.int (iI s2)), some (.int (iI v)), e4] [] (HW sc ar 82 oc rl ou tl, q) (QM tp bg 640 82 11 (rd tp m 11 dp a) dp [v] sc ar oc rl ou tl q)
theorem ml82_11 {K : PK} {tp : List Int} {bg : Int} {ar : Nat → Int → Int} (ht : TpOK tp) {m : Nat} (p : MC K tp bg 640 82 ar m 4 169 10 [.int (iI 0), .int (iI 0)] []) (l : ML11_82 K tp bg ar m) : ML11_82 K tp bg ar (m + 1) := by
  intro D u dp a v s1 s2 e4 sc oc rl ou tl q hdu hdp hD hM hF rv
  have ht1 := ht.1
  obtain ⟨hv, hA, hW, hWr, hDp, hG⟩ := id hM
  obtain ⟨g1, g2⟩ := hG rfl
  replace g1 : sc 8010 = a := g1
  replace hW : sc 8011 = -1 := hW
  have hFu : 16 * ((tp.length : Int) - a) + 1 ≤ ((m + 1 : Nat) : Int) := hF
  have hsk := sk_r (tp := tp) (p := a) (by omega)
  have hlk : 0 ≤ lk tp a ∧ lk tp a ≤ 255 := tch_r ht (sk tp a)
  have hlm := lkm_r hlk
  rcases (show v = 0 ∨ v = 1 by omega) with rfl | rfl
  · skip
    refine RQ.seg 3 (pc' := 12) (L' := [some (.ref 80), some (.int (iI s1)), some (.int (iI s2)), some (.int (iI 0)), e4]) (st' := [.int (iI (-1)), .int (iI (sc 8011))]) (g1 := (HW sc ar 82 oc rl ou tl, q)) rfl ?_
    refine RQ.if2 (a := (sc 8011)) (b := (-1)) rfl rfl rfl rfl (by omega) (by omega) (fun (q : sc 8011 ≠ (-1)) => absurd q (show ¬ sc 8011 ≠ (-1) from by omega)) (fun _ => ?_)
    refine RQ.seg 1 (pc' := 16) (L' := [some (.ref 80), some (.int (iI s1)), some (.int (iI s2)), some (.int (iI 0)), e4]) (st' := [.ref 80]) (g1 := (HW sc ar 82 oc rl ou tl, q)) rfl ?_
    refine RQ.call rfl rfl (CallR.up (d := 1) (m_look82 (d := 0) (sc := sc) (ar := ar) (a := a) ht hv g1 (by omega)) (by omega)) ?_
    refine RQ.seg 1 (pc' := 21) (L' := [some (.ref 80), some (.int (iI s1)), some (.int (iI s2)), some (.int (iI 0)), e4]) (st' := [.int (iI 124), .int (iI (lkm (lk tp a)))]) (g1 := (HW (usc sc 8010 (sk tp a)) ar 82 oc rl ou tl, q)) rfl ?_
    refine RQ.if2 (a := (lkm (lk tp a))) (b := 124) rfl rfl rfl rfl (by omega) (by omega) (fun (h2 : lkm (lk tp a) ≠ 124) => ?_) (fun (h2 : ¬ lkm (lk tp a) ≠ 124) => ?_)
    · skip
      refine RQ.seg 1 (pc' := 61) (L' := [some (.ref 80), some (.int (iI s1)), some (.int (iI s2)), some (.int (iI 0)), e4]) (st' := [.int (iI 0)]) (g1 := (HW (usc sc 8010 (sk tp a)) ar 82 oc rl ou tl, q)) rfl ?_
      refine RQ.ret rfl rfl ?_
      rw [show rd tp (m + 1) 11 dp a = (-1, sk tp a, []) by show rOl tp (rd tp m) dp a = _; unfold rOl; rw [if_neg (by omega)]]
      exact ⟨0, _, rfl, ⟨fun _ => by omega, by omega, by omega⟩, rfl, (by repeat (first | exact Same.rf | refine Same.us rfl ?_)), ⟨hv, by show 0 ≤ sk tp a ∧ sk tp a ≤ _; omega, hW, hWr, hDp, fun _ => ⟨rfl, g2⟩⟩, fun _ st => rfl⟩
    · skip
      refine RQ.seg 5 (pc' := 31) (L' := [some (.ref 80), some (.int (iI s1)), some (.int (iI s2)), some (.int (iI 0)), e4]) (st' := [.int ((iI (sk tp a)) + (iI 1)), .ref 80]) (g1 := (HW (usc sc 8010 (sk tp a)) ar 82 oc rl ou tl, q)) rfl ?_
      refine RQ.to (L' := [some (.ref 80), some (.int (iI s1)), some (.int (iI s2)), some (.int (iI 0)), e4]) (st' := [.int (iI (sk tp a + 1)), .ref 80]) rfl (by simp only [iI_add, iI_sub, iI_mul, iI_neg]) ?_
      refine RQ.seg 4 (pc' := 37) (L' := [some (.ref 80), some (.int (iI s1)), some (.int (iI s2)), some (.int (iI 0)), e4]) (st' := [.int (iI 0), .int (iI 0), .ref 80]) (g1 := (HW (usc sc 8010 (sk tp a + 1)) ar 82 oc rl ou tl, q)) rfl ?_
      have hps := lk_in (tp := tp) (a := a) (by omega) (by omega)
      refine RQ.callQ rfl rfl (CQ.up (p (D - 1) u dp (sk tp a + 1) (usc sc 8010 (sk tp a + 1)) oc rl ou tl q hdu hdp (by omega) ⟨hv, by show 0 ≤ sk tp a + 1 ∧ sk tp a + 1 ≤ _; omega, hW, hWr, hDp, fun _ => ⟨rfl, g2⟩⟩ (by show 16 * ((tp.length : Int) - (sk tp a + 1)) + 5 ≤ (m : Int); omega)) (by omega)) (fun rv9 g9 hc9 => ?_)
      obtain ⟨z, sc1, rfl, hz, rfl, hs1, hM1, hev⟩ := hc9
      have hz1 := hz.2
      have hS1 : Same muF sc sc1 := Same.tr (by repeat (first | exact Same.rf | refine Same.us rfl ?_)) hs1
      obtain ⟨hv_1, hA_1, hW_1, hWr_1, hD_1, hG_1⟩ := id hM1
      rcases (show z = 0 ∨ z = 1 by have := hz.1 rfl; omega) with rfl | rfl
      · skip
        refine RQ.seg 8 (pc' := 7) (L' := [some (.ref 80), some (.int (iI s1)), some (.int (iI s2)), some (.int (iI 0)), some (.int (iI 0))]) (st' := []) (g1 := (HW sc1 ar 82 oc rl ou tl, q)) rfl ?_
        rw [show rd tp (m + 1) 11 dp a = rsq (rap (rd tp m 4 dp (sk tp a + 1)) (-10)) (rd tp m 11 dp) by show rOl tp (rd tp m) dp a = _; unfold rOl; rw [if_pos (by omega)]]
        rcases Decidable.em ((rd tp m 4 dp (sk tp a + 1)).1 = -1) with he1 | hE1
        · obtain ⟨k1, k2⟩ := hG_1 he1
          have hg : sk tp a + 1 + 1 ≤ (rd tp m 4 dp (sk tp a + 1)).2.1 ∧ _ := ((rd_ok (tp := tp) m).at 4 dp (a := sk tp a + 1) (by omega)).2 he1
          refine RQ.im (l D u dp (rd tp m 4 dp (sk tp a + 1)).2.1 0 s1 s2 _ sc1 oc rl ou tl q hdu hdp hD ⟨hv_1, hA_1, hW_1.trans he1, by show (-1 : Int) ≤ -1 ∧ (-1 : Int) ≤ 160; omega, hD_1, fun _ => ⟨k1, k2⟩⟩ (by show 16 * ((tp.length : Int) - (rd tp m 4 dp (sk tp a + 1)).2.1) + 1 ≤ (m : Int); omega) (by omega)) (fun vv gg hq => ?_)
          obtain ⟨z9, sc9, e9, hz9, e8, hs9, hM9, hev9⟩ := hq
          have eR : rsq (rap (rd tp m 4 dp (sk tp a + 1)) (-10)) (rd tp m 11 dp) = pre ((rd tp m 4 dp (sk tp a + 1)).2.2 ++ [-10]) (rd tp m 11 dp (rd tp m 4 dp (sk tp a + 1)).2.1) := rsq_p (r := rap (rd tp m 4 dp (sk tp a + 1)) (-10)) he1
          rw [eR]
          refine ⟨z9, sc9, e9, hz9, e8, hS1.tr hs9, hM9, fun zz st => ?_⟩
          show ev _ (((rd tp m 4 dp (sk tp a + 1)).2.2 ++ [-10]) ++ (rd tp m 11 dp (rd tp m 4 dp (sk tp a + 1)).2.1).2.2) (0 :: st) = z9 :: st
          rw [ev_app, ev_app, show ev (fun k => ar 84 (kc3 k)) (rd tp m 4 dp (sk tp a + 1)).2.2 (0 :: st) = 0 :: 0 :: st from hev he1 (0 :: st), ev_jn (by omega), show jn (-10) 0 0 = 0 from rfl]
          exact hev9 zz st
        · rw [rsq_b (show ¬ (rap (rd tp m 4 dp (sk tp a + 1)) (-10)).1 = -1 from hE1)]
          have hwn : ¬ sc1 8011 = -1 := by omega
          refine RQ.seg 3 (pc' := 12) (L' := [some (.ref 80), some (.int (iI s1)), some (.int (iI s2)), some (.int (iI 0)), some (.int (iI 0))]) (st' := [.int (iI (-1)), .int (iI (sc1 8011))]) (g1 := (HW sc1 ar 82 oc rl ou tl, q)) rfl ?_
          refine RQ.if2 (a := (sc1 8011)) (b := (-1)) rfl rfl rfl rfl (by omega) (by omega) (fun _ => ?_) (fun (q : ¬ sc1 8011 ≠ (-1)) => absurd (show sc1 8011 ≠ (-1) from by omega) q)
          refine RQ.seg 1 (pc' := 61) (L' := [some (.ref 80), some (.int (iI s1)), some (.int (iI s2)), some (.int (iI 0)), some (.int (iI 0))]) (st' := [.int (iI 0)]) (g1 := (HW sc1 ar 82 oc rl ou tl, q)) rfl ?_
          refine RQ.ret rfl rfl ?_
          exact ⟨_, sc1, rfl, ⟨fun _ => by omega, by omega, by omega⟩, rfl, hS1, hM1, fun z9 => absurd z9 hE1⟩
      · skip
        refine RQ.seg 9 (pc' := 7) (L' := [some (.ref 80), some (.int (iI s1)), some (.int (iI s2)), some (.int (iI 1)), some (.int (iI 1))]) (st' := []) (g1 := (HW sc1 ar 82 oc rl ou tl, q)) rfl ?_
        rw [show rd tp (m + 1) 11 dp a = rsq (rap (rd tp m 4 dp (sk tp a + 1)) (-10)) (rd tp m 11 dp) by show rOl tp (rd tp m) dp a = _; unfold rOl; rw [if_pos (by omega)]]
        rcases Decidable.em ((rd tp m 4 dp (sk tp a + 1)).1 = -1) with he1 | hE1
        · obtain ⟨k1, k2⟩ := hG_1 he1
          have hg : sk tp a + 1 + 1 ≤ (rd tp m 4 dp (sk tp a + 1)).2.1 ∧ _ := ((rd_ok (tp := tp) m).at 4 dp (a := sk tp a + 1) (by omega)).2 he1
          refine RQ.im (l D u dp (rd tp m 4 dp (sk tp a + 1)).2.1 1 s1 s2 _ sc1 oc rl ou tl q hdu hdp hD ⟨hv_1, hA_1, hW_1.trans he1, by show (-1 : Int) ≤ -1 ∧ (-1 : Int) ≤ 160; omega, hD_1, fun _ => ⟨k1, k2⟩⟩ (by show 16 * ((tp.length : Int) - (rd tp m 4 dp (sk tp a + 1)).2.1) + 1 ≤ (m : Int); omega) (by omega)) (fun vv gg hq => ?_)
          obtain ⟨z9, sc9, e9, hz9, e8, hs9, hM9, hev9⟩ := hq
          have eR : rsq (rap (rd tp m 4 dp (sk tp a + 1)) (-10)) (rd tp m 11 dp) = pre ((rd tp m 4 dp (sk tp a + 1)).2.2 ++ [-10]) (rd tp m 11 dp (rd tp m 4 dp (sk tp a + 1)).2.1) := rsq_p (r := rap (rd tp m 4 dp (sk tp a + 1)) (-10)) he1
          rw [eR]
          refine ⟨z9, sc9, e9, hz9, e8, hS1.tr hs9, hM9, fun zz st => ?_⟩
          show ev _ (((rd tp m 4 dp (sk tp a + 1)).2.2 ++ [-10]) ++ (rd tp m 11 dp (rd tp m 4 dp (sk tp a + 1)).2.1).2.2) (0 :: st) = z9 :: st
          rw [ev_app, ev_app, show ev (fun k => ar 84 (kc3 k)) (rd tp m 4 dp (sk tp a + 1)).2.2 (0 :: st) = 1 :: 0 :: st from hev he1 (0 :: st), ev_jn (by omega), show jn (-10) 0 1 = 1 from rfl]
          exact hev9 zz st
        · rw [rsq_b (show ¬ (rap (rd tp m 4 dp (sk tp a + 1)) (-10)).1 = -1 from hE1)]
          have hwn : ¬ sc1 8011 = -1 := by omega
          refine RQ.seg 3 (pc' := 12) (L' := [some (.ref 80), some (.int (iI s1)), some (.int (iI s2)), some (.int (iI 1)), some (.int (iI 1))]) (st' := [.int (iI (-1)), .int (iI (sc1 8011))]) (g1 := (HW sc1 ar 82 oc rl ou tl, q)) rfl ?_
          refine RQ.if2 (a := (sc1 8011)) (b := (-1)) rfl rfl rfl rfl (by omega) (by omega) (fun _ => ?_) (fun (q : ¬ sc1 8011 ≠ (-1)) => absurd (show sc1 8011 ≠ (-1) from by omega) q)
          refine RQ.seg 1 (pc' := 61) (L' := [some (.ref 80), some (.int (iI s1)), some (.int (iI s2)), some (.int (iI 1)), some (.int (iI 1))]) (st' := [.int (iI 1)]) (g1 := (HW sc1 ar 82 oc rl ou tl, q)) rfl ?_
          refine RQ.ret rfl rfl ?_
          exact ⟨_, sc1, rfl, ⟨fun _ => by omega, by omega, by omega⟩, rfl, hS1, hM1, fun z9 => absurd z9 hE1⟩
  · skip
    refine RQ.seg 3 (pc' := 12) (L' := [some (.ref 80), some (.int (iI s1)), some (.int (iI s2)), some (.int (iI 1)), e4]) (st' := [.int (iI (-1)), .int (iI (sc 8011))]) (g1 := (HW sc ar 82 oc rl ou tl, q)) rfl ?_
    refine RQ.if2 (a := (sc 8011)) (b := (-1)) rfl rfl rfl rfl (by omega) (by omega) (fun (q : sc 8011 ≠ (-1)) => absurd q (show ¬ sc 8011 ≠ (-1) from by omega)) (fun _ => ?_)
    refine RQ.seg 1 (pc' := 16) (L' := [some (.ref 80), some (.int (iI s1)), some (.int (iI s2)), some (.int (iI 1)), e4]) (st' := [.ref 80]) (g1 := (HW sc ar 82 oc rl ou tl, q)) rfl ?_
    refine RQ.call rfl rfl (CallR.up (d := 1) (m_look82 (d := 0) (sc := sc) (ar := ar) (a := a) ht hv g1 (by omega)) (by omega)) ?_
    refine RQ.seg 1 (pc' := 21) (L' := [some (.ref 80), some (.int (iI s1)), some (.int (iI s2)), some (.int (iI 1)), e4]) (st' := [.int (iI 124), .int (iI (lkm (lk tp a)))]) (g1 := (HW (usc sc 8010 (sk tp a)) ar 82 oc rl ou tl, q)) rfl ?_
    refine RQ.if2 (a := (lkm (lk tp a))) (b := 124) rfl rfl rfl rfl (by omega) (by omega) (fun (h2 : lkm (lk tp a) ≠ 124) => ?_) (fun (h2 : ¬ lkm (lk tp a) ≠ 124) => ?_)
    · skip
      refine RQ.seg 1 (pc' := 61) (L' := [some (.ref 80), some (.int (iI s1)), some (.int (iI s2)), some (.int (iI 1)), e4]) (st' := [.int (iI 1)]) (g1 := (HW (usc sc 8010 (sk tp a)) ar 82 oc rl ou tl, q)) rfl ?_
      refine RQ.ret rfl rfl ?_
      rw [show rd tp (m + 1) 11 dp a = (-1, sk tp a, []) by show rOl tp (rd tp m) dp a = _; unfold rOl; rw [if_neg (by omega)]]
      exact ⟨1, _, rfl, ⟨fun _ => by omega, by omega, by omega⟩, rfl, (by repeat (first | exact Same.rf | refine Same.us rfl ?_)), ⟨hv, by show 0 ≤ sk tp a ∧ sk tp a ≤ _; omega, hW, hWr, hDp, fun _ => ⟨rfl, g2⟩⟩, fun _ st => rfl⟩
    · skip
      refine RQ.seg 5 (pc' := 31) (L' := [some (.ref 80), some (.int (iI s1)), some (.int (iI s2)), some (.int (iI 1)), e4]) (st' := [.int ((iI (sk tp a)) + (iI 1)), .ref 80]) (g1 := (HW (usc sc 8010 (sk tp a)) ar 82 oc rl ou tl, q)) rfl ?_
      refine RQ.to (L' := [some (.ref 80), some (.int (iI s1)), some (.int (iI s2)), some (.int (iI 1)), e4]) (st' := [.int (iI (sk tp a + 1)), .ref 80]) rfl (by simp only [iI_add, iI_sub, iI_mul, iI_neg]) ?_
      refine RQ.seg 4 (pc' := 37) (L' := [some (.ref 80), some (.int (iI s1)), some (.int (iI s2)), some (.int (iI 1)), e4]) (st' := [.int (iI 0), .int (iI 0), .ref 80]) (g1 := (HW (usc sc 8010 (sk tp a + 1)) ar 82 oc rl ou tl, q)) rfl ?_
      have hps := lk_in (tp := tp) (a := a) (by omega) (by omega)
      refine RQ.callQ rfl rfl (CQ.up (p (D - 1) u dp (sk tp a + 1) (usc sc 8010 (sk tp a + 1)) oc rl ou tl q hdu hdp (by omega) ⟨hv, by show 0 ≤ sk tp a + 1 ∧ sk tp a + 1 ≤ _; omega, hW, hWr, hDp, fun _ => ⟨rfl, g2⟩⟩ (by show 16 * ((tp.length : Int) - (sk tp a + 1)) + 5 ≤ (m : Int); omega)) (by omega)) (fun rv9 g9 hc9 => ?_)
      obtain ⟨z, sc1, rfl, hz, rfl, hs1, hM1, hev⟩ := hc9
      have hz1 := hz.2
      have hS1 : Same muF sc sc1 := Same.tr (by repeat (first | exact Same.rf | refine Same.us rfl ?_)) hs1
      obtain ⟨hv_1, hA_1, hW_1, hWr_1, hD_1, hG_1⟩ := id hM1
      rcases (show z = 0 ∨ z = 1 by have := hz.1 rfl; omega) with rfl | rfl
      · skip
        refine RQ.seg 7 (pc' := 7) (L' := [some (.ref 80), some (.int (iI s1)), some (.int (iI s2)), some (.int (iI 1)), some (.int (iI 0))]) (st' := []) (g1 := (HW sc1 ar 82 oc rl ou tl, q)) rfl ?_
        rw [show rd tp (m + 1) 11 dp a = rsq (rap (rd tp m 4 dp (sk tp a + 1)) (-10)) (rd tp m 11 dp) by show rOl tp (rd tp m) dp a = _; unfold rOl; rw [if_pos (by omega)]]
        rcases Decidable.em ((rd tp m 4 dp (sk tp a + 1)).1 = -1) with he1 | hE1
        · obtain ⟨k1, k2⟩ := hG_1 he1
          have hg : sk tp a + 1 + 1 ≤ (rd tp m 4 dp (sk tp a + 1)).2.1 ∧ _ := ((rd_ok (tp := tp) m).at 4 dp (a := sk tp a + 1) (by omega)).2 he1
          refine RQ.im (l D u dp (rd tp m 4 dp (sk tp a + 1)).2.1 1 s1 s2 _ sc1 oc rl ou tl q hdu hdp hD ⟨hv_1, hA_1, hW_1.trans he1, by show (-1 : Int) ≤ -1 ∧ (-1 : Int) ≤ 160; omega, hD_1, fun _ => ⟨k1, k2⟩⟩ (by show 16 * ((tp.length : Int) - (rd tp m 4 dp (sk tp a + 1)).2.1) + 1 ≤ (m : Int); omega) (by omega)) (fun vv gg hq => ?_)
          obtain ⟨z9, sc9, e9, hz9, e8, hs9, hM9, hev9⟩ := hq
          have eR : rsq (rap (rd tp m 4 dp (sk tp a + 1)) (-10)) (rd tp m 11 dp) = pre ((rd tp m 4 dp (sk tp a + 1)).2.2 ++ [-10]) (rd tp m 11 dp (rd tp m 4 dp (sk tp a + 1)).2.1) := rsq_p (r := rap (rd tp m 4 dp (sk tp a + 1)) (-10)) he1
          rw [eR]
          refine ⟨z9, sc9, e9, hz9, e8, hS1.tr hs9, hM9, fun zz st => ?_⟩
          show ev _ (((rd tp m 4 dp (sk tp a + 1)).2.2 ++ [-10]) ++ (rd tp m 11 dp (rd tp m 4 dp (sk tp a + 1)).2.1).2.2) (1 :: st) = z9 :: st
          rw [ev_app, ev_app, show ev (fun k => ar 84 (kc3 k)) (rd tp m 4 dp (sk tp a + 1)).2.2 (1 :: st) = 0 :: 1 :: st from hev he1 (1 :: st), ev_jn (by omega), show jn (-10) 1 0 = 1 from rfl]
          exact hev9 zz st
        · rw [rsq_b (show ¬ (rap (rd tp m 4 dp (sk tp a + 1)) (-10)).1 = -1 from hE1)]
          have hwn : ¬ sc1 8011 = -1 := by omega
          refine RQ.seg 3 (pc' := 12) (L' := [some (.ref 80), some (.int (iI s1)), some (.int (iI s2)), some (.int (iI 1)), some (.int (iI 0))]) (st' := [.int (iI (-1)), .int (iI (sc1 8011))]) (g1 := (HW sc1 ar 82 oc rl ou tl, q)) rfl ?_
          refine RQ.if2 (a := (sc1 8011)) (b := (-1)) rfl rfl rfl rfl (by omega) (by omega) (fun _ => ?_) (fun (q : ¬ sc1 8011 ≠ (-1)) => absurd (show sc1 8011 ≠ (-1) from by omega) q)
          refine RQ.seg 1 (pc' := 61) (L' := [some (.ref 80), some (.int (iI s1)), some (.int (iI s2)), some (.int (iI 1)), some (.int (iI 0))]) (st' := [.int (iI 1)]) (g1 := (HW sc1 ar 82 oc rl ou tl, q)) rfl ?_
          refine RQ.ret rfl rfl ?_
          exact ⟨_, sc1, rfl, ⟨fun _ => by omega, by omega, by omega⟩, rfl, hS1, hM1, fun z9 => absurd z9 hE1⟩
      · skip
        refine RQ.seg 7 (pc' := 7) (L' := [some (.ref 80), some (.int (iI s1)), some (.int (iI s2)), some (.int (iI 1)), some (.int (iI 1))]) (st' := []) (g1 := (HW sc1 ar 82 oc rl ou tl, q)) rfl ?_
        rw [show rd tp (m + 1) 11 dp a = rsq (rap (rd tp m 4 dp (sk tp a + 1)) (-10)) (rd tp m 11 dp) by show rOl tp (rd tp m) dp a = _; unfold rOl; rw [if_pos (by omega)]]
        rcases Decidable.em ((rd tp m 4 dp (sk tp a + 1)).1 = -1) with he1 | hE1
        · obtain ⟨k1, k2⟩ := hG_1 he1
          have hg : sk tp a + 1 + 1 ≤ (rd tp m 4 dp (sk tp a + 1)).2.1 ∧ _ := ((rd_ok (tp := tp) m).at 4 dp (a := sk tp a + 1) (by omega)).2 he1
          refine RQ.im (l D u dp (rd tp m 4 dp (sk tp a + 1)).2.1 1 s1 s2 _ sc1 oc rl ou tl q hdu hdp hD ⟨hv_1, hA_1, hW_1.trans he1, by show (-1 : Int) ≤ -1 ∧ (-1 : Int) ≤ 160; omega, hD_1, fun _ => ⟨k1, k2⟩⟩ (by show 16 * ((tp.length : Int) - (rd tp m 4 dp (sk tp a + 1)).2.1) + 1 ≤ (m : Int); omega) (by omega)) (fun vv gg hq => ?_)
          obtain ⟨z9, sc9, e9, hz9, e8, hs9, hM9, hev9⟩ := hq
          have eR : rsq (rap (rd tp m 4 dp (sk tp a + 1)) (-10)) (rd tp m 11 dp) = pre ((rd tp m 4 dp (sk tp a + 1)).2.2 ++ [-10]) (rd tp m 11 dp (rd tp m 4 dp (sk tp a + 1)).2.1) := rsq_p (r := rap (rd tp m 4 dp (sk tp a + 1)) (-10)) he1
          rw [eR]
          refine ⟨z9, sc9, e9, hz9, e8, hS1.tr hs9, hM9, fun zz st => ?_⟩
          show ev _ (((rd tp m 4 dp (sk tp a + 1)).2.2 ++ [-10]) ++ (rd tp m 11 dp (rd tp m 4 dp (sk tp a + 1)).2.1).2.2) (1 :: st) = z9 :: st
          rw [ev_app, ev_app, show ev (fun k => ar 84 (kc3 k)) (rd tp m 4 dp (sk tp a + 1)).2.2 (1 :: st) = 1 :: 1 :: st from hev he1 (1 :: st), ev_jn (by omega), show jn (-10) 1 1 = 1 from rfl]
          exact hev9 zz st
        · rw [rsq_b (show ¬ (rap (rd tp m 4 dp (sk tp a + 1)) (-10)).1 = -1 from hE1)]
          have hwn : ¬ sc1 8011 = -1 := by omega
          refine RQ.seg 3 (pc' := 12) (L' := [some (.ref 80), some (.int (iI s1)), some (.int (iI s2)), some (.int (iI 1)), some (.int (iI 1))]) (st' := [.int (iI (-1)), .int (iI (sc1 8011))]) (g1 := (HW sc1 ar 82 oc rl ou tl, q)) rfl ?_
          refine RQ.if2 (a := (sc1 8011)) (b := (-1)) rfl rfl rfl rfl (by omega) (by omega) (fun _ => ?_) (fun (q : ¬ sc1 8011 ≠ (-1)) => absurd (show sc1 8011 ≠ (-1) from by omega) q)
          refine RQ.seg 1 (pc' := 61) (L' := [some (.ref 80), some (.int (iI s1)), some (.int (iI s2)), some (.int (iI 1)), some (.int (iI 1))]) (st' := [.int (iI 1)]) (g1 := (HW sc1 ar 82 oc rl ou tl, q)) rfl ?_
          refine RQ.ret rfl rfl ?_
          exact ⟨_, sc1, rfl, ⟨fun _ => by omega, by omega, by omega⟩, rfl, hS1, hM1, fun z9 => absurd z9 hE1⟩
theorem ms82_4 {K : PK} {tp : List Int} {bg : Int} {ar : Nat → Int → Int} (ht : TpOK tp) {m : Nat} (p : MC K tp bg 640 82 ar m 3 168 9 [] []) (l : ML9_82 K tp bg ar m) : MC K tp bg 640 82 ar (m + 1) 4 169 10 [.int (iI 0), .int (iI 0)] [] := by
  intro D u dp a sc oc rl ou tl q hdu hdp hD hM hF
  have ht1 := ht.1
  obtain ⟨hv, hA, hW, hWr, hDp, hG⟩ := id hM
  obtain ⟨g1, g2⟩ := hG rfl
  replace g1 : sc 8010 = a := g1
  replace hW : sc 8011 = -1 := hW
  have hFu : 16 * ((tp.length : Int) - a) + 5 ≤ ((m + 1 : Nat) : Int) := hF
  refine CQ.of (own := 11) (n := 5) (ini := false) (rt := (some .boolean)) (cd := cd169) (by decide +kernel) rfl (by decide +kernel) rfl (Nat.le_of_ble_eq_true rfl) ?_
  rw [show rd tp (m + 1) 4 dp a = rsq (rd tp m 3 dp a) (rd tp m 9 dp) from rfl]
  refine RQ.seg 3 (pc' := 14) (L' := [some (.ref 80), some (.int (iI 0)), some (.int (iI 0)), none, none]) (st' := [.ref 80]) (g1 := (HW sc ar 82 oc rl ou tl, q)) rfl ?_
  refine RQ.callQ rfl rfl (CQ.up (p (D - 1) u dp a sc oc rl ou tl q hdu hdp (by omega) hM (by show 16 * ((tp.length : Int) - a) + 4 ≤ (m : Int); omega)) (by omega)) (fun rv9 g9 hc9 => ?_)
  obtain ⟨z, sc1, rfl, hz, rfl, hs1, hM1, hev⟩ := hc9
  have hz1 := hz.2
  have hS1 : Same muF sc sc1 := Same.tr (by repeat (first | exact Same.rf | refine Same.us rfl ?_)) hs1
  obtain ⟨hv_1, hA_1, hW_1, hWr_1, hD_1, hG_1⟩ := id hM1
  rcases (show z = 0 ∨ z = 1 by have := hz.1 rfl; omega) with rfl | rfl
  · skip
    refine RQ.seg 1 (pc' := 18) (L' := [some (.ref 80), some (.int (iI 0)), some (.int (iI 0)), some (.int (iI 0)), none]) (st' := []) (g1 := (HW sc1 ar 82 oc rl ou tl, q)) rfl ?_
    rcases Decidable.em ((rd tp m 3 dp a).1 = -1) with he1 | hE1
    · obtain ⟨k1, k2⟩ := hG_1 he1
      have hg : a + 1 ≤ (rd tp m 3 dp a).2.1 ∧ _ := ((rd_ok (tp := tp) m).at 3 dp (a := a) (by omega)).2 he1
      refine RQ.im (l D u dp (rd tp m 3 dp a).2.1 0 0 0 none sc1 oc rl ou tl q hdu hdp hD ⟨hv_1, hA_1, hW_1.trans he1, by show (-1 : Int) ≤ -1 ∧ (-1 : Int) ≤ 160; omega, hD_1, fun _ => ⟨k1, k2⟩⟩ (by show 16 * ((tp.length : Int) - (rd tp m 3 dp a).2.1) + 1 ≤ (m : Int); omega) (by omega)) (fun vv gg hq => ?_)
      obtain ⟨z9, sc9, e9, hz9, e8, hs9, hM9, hev9⟩ := hq
      rw [rsq_p he1]
      refine ⟨z9, sc9, e9, hz9, e8, hs1.tr hs9, hM9, fun zz st => ?_⟩
      show ev _ ((rd tp m 3 dp a).2.2 ++ (rd tp m 9 dp (rd tp m 3 dp a).2.1).2.2) st = z9 :: st
      rw [ev_app, show ev (fun k => ar 84 (kc3 k)) (rd tp m 3 dp a).2.2 st = 0 :: st from hev he1 st]
      exact hev9 zz st
    · rw [rsq_b hE1]
      have hwn : ¬ sc1 8011 = -1 := by omega
      refine RQ.seg 3 (pc' := 23) (L' := [some (.ref 80), some (.int (iI 0)), some (.int (iI 0)), some (.int (iI 0)), none]) (st' := [.int (iI (-1)), .int (iI (sc1 8011))]) (g1 := (HW sc1 ar 82 oc rl ou tl, q)) rfl ?_
      refine RQ.if2 (a := (sc1 8011)) (b := (-1)) rfl rfl rfl rfl (by omega) (by omega) (fun _ => ?_) (fun (q : ¬ sc1 8011 ≠ (-1)) => absurd (show sc1 8011 ≠ (-1) from by omega) q)
      refine RQ.seg 1 (pc' := 70) (L' := [some (.ref 80), some (.int (iI 0)), some (.int (iI 0)), some (.int (iI 0)), none]) (st' := [.int (iI 0)]) (g1 := (HW sc1 ar 82 oc rl ou tl, q)) rfl ?_
      refine RQ.ret rfl rfl ?_
      exact ⟨_, sc1, rfl, ⟨fun _ => by omega, by omega, by omega⟩, rfl, hs1, hM1, fun z9 => absurd z9 hE1⟩
  · skip
    refine RQ.seg 1 (pc' := 18) (L' := [some (.ref 80), some (.int (iI 0)), some (.int (iI 0)), some (.int (iI 1)), none]) (st' := []) (g1 := (HW sc1 ar 82 oc rl ou tl, q)) rfl ?_
    rcases Decidable.em ((rd tp m 3 dp a).1 = -1) with he1 | hE1
    · obtain ⟨k1, k2⟩ := hG_1 he1
      have hg : a + 1 ≤ (rd tp m 3 dp a).2.1 ∧ _ := ((rd_ok (tp := tp) m).at 3 dp (a := a) (by omega)).2 he1
      refine RQ.im (l D u dp (rd tp m 3 dp a).2.1 1 0 0 none sc1 oc rl ou tl q hdu hdp hD ⟨hv_1, hA_1, hW_1.trans he1, by show (-1 : Int) ≤ -1 ∧ (-1 : Int) ≤ 160; omega, hD_1, fun _ => ⟨k1, k2⟩⟩ (by show 16 * ((tp.length : Int) - (rd tp m 3 dp a).2.1) + 1 ≤ (m : Int); omega) (by omega)) (fun vv gg hq => ?_)
      obtain ⟨z9, sc9, e9, hz9, e8, hs9, hM9, hev9⟩ := hq
      rw [rsq_p he1]
      refine ⟨z9, sc9, e9, hz9, e8, hs1.tr hs9, hM9, fun zz st => ?_⟩
      show ev _ ((rd tp m 3 dp a).2.2 ++ (rd tp m 9 dp (rd tp m 3 dp a).2.1).2.2) st = z9 :: st
      rw [ev_app, show ev (fun k => ar 84 (kc3 k)) (rd tp m 3 dp a).2.2 st = 1 :: st from hev he1 st]
      exact hev9 zz st
    · rw [rsq_b hE1]
      have hwn : ¬ sc1 8011 = -1 := by omega
      refine RQ.seg 3 (pc' := 23) (L' := [some (.ref 80), some (.int (iI 0)), some (.int (iI 0)), some (.int (iI 1)), none]) (st' := [.int (iI (-1)), .int (iI (sc1 8011))]) (g1 := (HW sc1 ar 82 oc rl ou tl, q)) rfl ?_
      refine RQ.if2 (a := (sc1 8011)) (b := (-1)) rfl rfl rfl rfl (by omega) (by omega) (fun _ => ?_) (fun (q : ¬ sc1 8011 ≠ (-1)) => absurd (show sc1 8011 ≠ (-1) from by omega) q)
      refine RQ.seg 1 (pc' := 70) (L' := [some (.ref 80), some (.int (iI 0)), some (.int (iI 0)), some (.int (iI 1)), none]) (st' := [.int (iI 1)]) (g1 := (HW sc1 ar 82 oc rl ou tl, q)) rfl ?_
      refine RQ.ret rfl rfl ?_
      exact ⟨_, sc1, rfl, ⟨fun _ => by omega, by omega, by omega⟩, rfl, hs1, hM1, fun z9 => absurd z9 hE1⟩
theorem ms82_10 {K : PK} {tp : List Int} {bg : Int} {ar : Nat → Int → Int} (ht : TpOK tp) {m : Nat} {v : Int} (p : MC K tp bg 640 82 ar m 8 167 8 [.int (iI 1), .int (iI v)] [v]) (l : ML9_82 K tp bg ar m) : MC K tp bg 640 82 ar (m + 1) 10 169 10 [.int (iI 1), .int (iI v)] [v] := by
  intro D u dp a sc oc rl ou tl q hdu hdp hD hM hF
  have ht1 := ht.1
  obtain ⟨hv, hA, hW, hWr, hDp, hG⟩ := id hM
  obtain ⟨g1, g2⟩ := hG rfl
  replace g1 : sc 8010 = a := g1
  replace hW : sc 8011 = -1 := hW
  have hFu : 16 * ((tp.length : Int) - a) + 2 ≤ ((m + 1 : Nat) : Int) := hF
  refine CQ.of (own := 11) (n := 5) (ini := false) (rt := (some .boolean)) (cd := cd169) (by decide +kernel) rfl (by decide +kernel) rfl (Nat.le_of_ble_eq_true rfl) ?_
  rw [show rd tp (m + 1) 10 dp a = rsq (rd tp m 8 dp a) (rd tp m 9 dp) from rfl]
  refine RQ.seg 5 (pc' := 7) (L' := [some (.ref 80), some (.int (iI 1)), some (.int (iI v)), none, none]) (st' := [.int (iI v), .int (iI 1), .ref 80]) (g1 := (HW sc ar 82 oc rl ou tl, q)) rfl ?_
  refine RQ.callQ rfl rfl (CQ.up (p (D - 1) u dp a sc oc rl ou tl q hdu hdp (by omega) hM (by show 16 * ((tp.length : Int) - a) + 1 ≤ (m : Int); omega)) (by omega)) (fun rv9 g9 hc9 => ?_)
  obtain ⟨z, sc1, rfl, hz, rfl, hs1, hM1, hev⟩ := hc9
  have hz1 := hz.2
  have hS1 : Same muF sc sc1 := Same.tr (by repeat (first | exact Same.rf | refine Same.us rfl ?_)) hs1
  obtain ⟨hv_1, hA_1, hW_1, hWr_1, hD_1, hG_1⟩ := id hM1
  rcases (show z = 0 ∨ z = 1 by have := hz.1 rfl; omega) with rfl | rfl
  · skip
    refine RQ.seg 2 (pc' := 18) (L' := [some (.ref 80), some (.int (iI 1)), some (.int (iI v)), some (.int (iI 0)), none]) (st' := []) (g1 := (HW sc1 ar 82 oc rl ou tl, q)) rfl ?_
    rcases Decidable.em ((rd tp m 8 dp a).1 = -1) with he1 | hE1
    · obtain ⟨k1, k2⟩ := hG_1 he1
      have hg : a + 1 ≤ (rd tp m 8 dp a).2.1 ∧ _ := ((rd_ok (tp := tp) m).at 8 dp (a := a) (by omega)).2 he1
      refine RQ.im (l D u dp (rd tp m 8 dp a).2.1 0 1 v none sc1 oc rl ou tl q hdu hdp hD ⟨hv_1, hA_1, hW_1.trans he1, by show (-1 : Int) ≤ -1 ∧ (-1 : Int) ≤ 160; omega, hD_1, fun _ => ⟨k1, k2⟩⟩ (by show 16 * ((tp.length : Int) - (rd tp m 8 dp a).2.1) + 1 ≤ (m : Int); omega) (by omega)) (fun vv gg hq => ?_)
      obtain ⟨z9, sc9, e9, hz9, e8, hs9, hM9, hev9⟩ := hq
      rw [rsq_p he1]
      refine ⟨z9, sc9, e9, hz9, e8, hs1.tr hs9, hM9, fun zz st => ?_⟩
      show ev _ ((rd tp m 8 dp a).2.2 ++ (rd tp m 9 dp (rd tp m 8 dp a).2.1).2.2) (v :: st) = z9 :: st
      rw [ev_app, show ev (fun k => ar 84 (kc3 k)) (rd tp m 8 dp a).2.2 (v :: st) = 0 :: st from hev he1 st]
      exact hev9 zz st
    · rw [rsq_b hE1]
      have hwn : ¬ sc1 8011 = -1 := by omega
      refine RQ.seg 3 (pc' := 23) (L' := [some (.ref 80), some (.int (iI 1)), some (.int (iI v)), some (.int (iI 0)), none]) (st' := [.int (iI (-1)), .int (iI (sc1 8011))]) (g1 := (HW sc1 ar 82 oc rl ou tl, q)) rfl ?_
      refine RQ.if2 (a := (sc1 8011)) (b := (-1)) rfl rfl rfl rfl (by omega) (by omega) (fun _ => ?_) (fun (q : ¬ sc1 8011 ≠ (-1)) => absurd (show sc1 8011 ≠ (-1) from by omega) q)
      refine RQ.seg 1 (pc' := 70) (L' := [some (.ref 80), some (.int (iI 1)), some (.int (iI v)), some (.int (iI 0)), none]) (st' := [.int (iI 0)]) (g1 := (HW sc1 ar 82 oc rl ou tl, q)) rfl ?_
      refine RQ.ret rfl rfl ?_
      exact ⟨_, sc1, rfl, ⟨fun _ => by omega, by omega, by omega⟩, rfl, hs1, hM1, fun z9 => absurd z9 hE1⟩
  · skip
    refine RQ.seg 2 (pc' := 18) (L' := [some (.ref 80), some (.int (iI 1)), some (.int (iI v)), some (.int (iI 1)), none]) (st' := []) (g1 := (HW sc1 ar 82 oc rl ou tl, q)) rfl ?_
    rcases Decidable.em ((rd tp m 8 dp a).1 = -1) with he1 | hE1
    · obtain ⟨k1, k2⟩ := hG_1 he1
      have hg : a + 1 ≤ (rd tp m 8 dp a).2.1 ∧ _ := ((rd_ok (tp := tp) m).at 8 dp (a := a) (by omega)).2 he1
      refine RQ.im (l D u dp (rd tp m 8 dp a).2.1 1 1 v none sc1 oc rl ou tl q hdu hdp hD ⟨hv_1, hA_1, hW_1.trans he1, by show (-1 : Int) ≤ -1 ∧ (-1 : Int) ≤ 160; omega, hD_1, fun _ => ⟨k1, k2⟩⟩ (by show 16 * ((tp.length : Int) - (rd tp m 8 dp a).2.1) + 1 ≤ (m : Int); omega) (by omega)) (fun vv gg hq => ?_)
      obtain ⟨z9, sc9, e9, hz9, e8, hs9, hM9, hev9⟩ := hq
      rw [rsq_p he1]
      refine ⟨z9, sc9, e9, hz9, e8, hs1.tr hs9, hM9, fun zz st => ?_⟩
      show ev _ ((rd tp m 8 dp a).2.2 ++ (rd tp m 9 dp (rd tp m 8 dp a).2.1).2.2) (v :: st) = z9 :: st
      rw [ev_app, show ev (fun k => ar 84 (kc3 k)) (rd tp m 8 dp a).2.2 (v :: st) = 1 :: st from hev he1 st]
      exact hev9 zz st
    · rw [rsq_b hE1]
      have hwn : ¬ sc1 8011 = -1 := by omega
      refine RQ.seg 3 (pc' := 23) (L' := [some (.ref 80), some (.int (iI 1)), some (.int (iI v)), some (.int (iI 1)), none]) (st' := [.int (iI (-1)), .int (iI (sc1 8011))]) (g1 := (HW sc1 ar 82 oc rl ou tl, q)) rfl ?_
      refine RQ.if2 (a := (sc1 8011)) (b := (-1)) rfl rfl rfl rfl (by omega) (by omega) (fun _ => ?_) (fun (q : ¬ sc1 8011 ≠ (-1)) => absurd (show sc1 8011 ≠ (-1) from by omega) q)
      refine RQ.seg 1 (pc' := 70) (L' := [some (.ref 80), some (.int (iI 1)), some (.int (iI v)), some (.int (iI 1)), none]) (st' := [.int (iI 1)]) (g1 := (HW sc1 ar 82 oc rl ou tl, q)) rfl ?_
      refine RQ.ret rfl rfl ?_
      exact ⟨_, sc1, rfl, ⟨fun _ => by omega, by omega, by omega⟩, rfl, hs1, hM1, fun z9 => absurd z9 hE1⟩
theorem ms82_5 {K : PK} {tp : List Int} {bg : Int} {ar : Nat → Int → Int} (ht : TpOK tp) {m : Nat} (p : MC K tp bg 640 82 ar m 4 169 10 [.int (iI 0), .int (iI 0)] []) (l : ML11_82 K tp bg ar m) : MC K tp bg 640 82 ar (m + 1) 5 170 11 [.int (iI 0), .int (iI 0)] [] := by
  intro D u dp a sc oc rl ou tl q hdu hdp hD hM hF
  have ht1 := ht.1
  obtain ⟨hv, hA, hW, hWr, hDp, hG⟩ := id hM
  obtain ⟨g1, g2⟩ := hG rfl
  replace g1 : sc 8010 = a := g1
  replace hW : sc 8011 = -1 := hW
  have hFu : 16 * ((tp.length : Int) - a) + 6 ≤ ((m + 1 : Nat) : Int) := hF
  refine CQ.of (own := 11) (n := 5) (ini := false) (rt := (some .boolean)) (cd := cd170) (by decide +kernel) rfl (by decide +kernel) rfl (Nat.le_of_ble_eq_true rfl) ?_
  rw [show rd tp (m + 1) 5 dp a = rsq (rd tp m 4 dp a) (rd tp m 11 dp) from rfl]
  refine RQ.seg 3 (pc' := 3) (L' := [some (.ref 80), some (.int (iI 0)), some (.int (iI 0)), none, none]) (st' := [.int (iI 0), .int (iI 0), .ref 80]) (g1 := (HW sc ar 82 oc rl ou tl, q)) rfl ?_
  refine RQ.callQ rfl rfl (CQ.up (p (D - 1) u dp a sc oc rl ou tl q hdu hdp (by omega) hM (by show 16 * ((tp.length : Int) - a) + 5 ≤ (m : Int); omega)) (by omega)) (fun rv9 g9 hc9 => ?_)
  obtain ⟨z, sc1, rfl, hz, rfl, hs1, hM1, hev⟩ := hc9
  have hz1 := hz.2
  have hS1 : Same muF sc sc1 := Same.tr (by repeat (first | exact Same.rf | refine Same.us rfl ?_)) hs1
  obtain ⟨hv_1, hA_1, hW_1, hWr_1, hD_1, hG_1⟩ := id hM1
  rcases (show z = 0 ∨ z = 1 by have := hz.1 rfl; omega) with rfl | rfl
  · skip
    refine RQ.seg 1 (pc' := 7) (L' := [some (.ref 80), some (.int (iI 0)), some (.int (iI 0)), some (.int (iI 0)), none]) (st' := []) (g1 := (HW sc1 ar 82 oc rl ou tl, q)) rfl ?_
    rcases Decidable.em ((rd tp m 4 dp a).1 = -1) with he1 | hE1
    · obtain ⟨k1, k2⟩ := hG_1 he1
      have hg : a + 1 ≤ (rd tp m 4 dp a).2.1 ∧ _ := ((rd_ok (tp := tp) m).at 4 dp (a := a) (by omega)).2 he1
      refine RQ.im (l D u dp (rd tp m 4 dp a).2.1 0 0 0 none sc1 oc rl ou tl q hdu hdp hD ⟨hv_1, hA_1, hW_1.trans he1, by show (-1 : Int) ≤ -1 ∧ (-1 : Int) ≤ 160; omega, hD_1, fun _ => ⟨k1, k2⟩⟩ (by show 16 * ((tp.length : Int) - (rd tp m 4 dp a).2.1) + 1 ≤ (m : Int); omega) (by omega)) (fun vv gg hq => ?_)
      obtain ⟨z9, sc9, e9, hz9, e8, hs9, hM9, hev9⟩ := hq
      rw [rsq_p he1]
      refine ⟨z9, sc9, e9, hz9, e8, hs1.tr hs9, hM9, fun zz st => ?_⟩
      show ev _ ((rd tp m 4 dp a).2.2 ++ (rd tp m 11 dp (rd tp m 4 dp a).2.1).2.2) st = z9 :: st
      rw [ev_app, show ev (fun k => ar 84 (kc3 k)) (rd tp m 4 dp a).2.2 st = 0 :: st from hev he1 st]
      exact hev9 zz st
    · rw [rsq_b hE1]
      have hwn : ¬ sc1 8011 = -1 := by omega
      refine RQ.seg 3 (pc' := 12) (L' := [some (.ref 80), some (.int (iI 0)), some (.int (iI 0)), some (.int (iI 0)), none]) (st' := [.int (iI (-1)), .int (iI (sc1 8011))]) (g1 := (HW sc1 ar 82 oc rl ou tl, q)) rfl ?_
      refine RQ.if2 (a := (sc1 8011)) (b := (-1)) rfl rfl rfl rfl (by omega) (by omega) (fun _ => ?_) (fun (q : ¬ sc1 8011 ≠ (-1)) => absurd (show sc1 8011 ≠ (-1) from by omega) q)
      refine RQ.seg 1 (pc' := 61) (L' := [some (.ref 80), some (.int (iI 0)), some (.int (iI 0)), some (.int (iI 0)), none]) (st' := [.int (iI 0)]) (g1 := (HW sc1 ar 82 oc rl ou tl, q)) rfl ?_
      refine RQ.ret rfl rfl ?_
      exact ⟨_, sc1, rfl, ⟨fun _ => by omega, by omega, by omega⟩, rfl, hs1, hM1, fun z9 => absurd z9 hE1⟩
  · skip
    refine RQ.seg 1 (pc' := 7) (L' := [some (.ref 80), some (.int (iI 0)), some (.int (iI 0)), some (.int (iI 1)), none]) (st' := []) (g1 := (HW sc1 ar 82 oc rl ou tl, q)) rfl ?_
    rcases Decidable.em ((rd tp m 4 dp a).1 = -1) with he1 | hE1
    · obtain ⟨k1, k2⟩ := hG_1 he1
      have hg : a + 1 ≤ (rd tp m 4 dp a).2.1 ∧ _ := ((rd_ok (tp := tp) m).at 4 dp (a := a) (by omega)).2 he1
      refine RQ.im (l D u dp (rd tp m 4 dp a).2.1 1 0 0 none sc1 oc rl ou tl q hdu hdp hD ⟨hv_1, hA_1, hW_1.trans he1, by show (-1 : Int) ≤ -1 ∧ (-1 : Int) ≤ 160; omega, hD_1, fun _ => ⟨k1, k2⟩⟩ (by show 16 * ((tp.length : Int) - (rd tp m 4 dp a).2.1) + 1 ≤ (m : Int); omega) (by omega)) (fun vv gg hq => ?_)
      obtain ⟨z9, sc9, e9, hz9, e8, hs9, hM9, hev9⟩ := hq
      rw [rsq_p he1]
      refine ⟨z9, sc9, e9, hz9, e8, hs1.tr hs9, hM9, fun zz st => ?_⟩
      show ev _ ((rd tp m 4 dp a).2.2 ++ (rd tp m 11 dp (rd tp m 4 dp a).2.1).2.2) st = z9 :: st
      rw [ev_app, show ev (fun k => ar 84 (kc3 k)) (rd tp m 4 dp a).2.2 st = 1 :: st from hev he1 st]
      exact hev9 zz st
    · rw [rsq_b hE1]
      have hwn : ¬ sc1 8011 = -1 := by omega
      refine RQ.seg 3 (pc' := 12) (L' := [some (.ref 80), some (.int (iI 0)), some (.int (iI 0)), some (.int (iI 1)), none]) (st' := [.int (iI (-1)), .int (iI (sc1 8011))]) (g1 := (HW sc1 ar 82 oc rl ou tl, q)) rfl ?_
      refine RQ.if2 (a := (sc1 8011)) (b := (-1)) rfl rfl rfl rfl (by omega) (by omega) (fun _ => ?_) (fun (q : ¬ sc1 8011 ≠ (-1)) => absurd (show sc1 8011 ≠ (-1) from by omega) q)
      refine RQ.seg 1 (pc' := 61) (L' := [some (.ref 80), some (.int (iI 0)), some (.int (iI 0)), some (.int (iI 1)), none]) (st' := [.int (iI 1)]) (g1 := (HW sc1 ar 82 oc rl ou tl, q)) rfl ?_
      refine RQ.ret rfl rfl ?_
      exact ⟨_, sc1, rfl, ⟨fun _ => by omega, by omega, by omega⟩, rfl, hs1, hM1, fun z9 => absurd z9 hE1⟩
theorem ms82_12 {K : PK} {tp : List Int} {bg : Int} {ar : Nat → Int → Int} (ht : TpOK tp) {m : Nat} {v : Int} (p : MC K tp bg 640 82 ar m 10 169 10 [.int (iI 1), .int (iI v)] [v]) (l : ML11_82 K tp bg ar m) : MC K tp bg 640 82 ar (m + 1) 12 170 11 [.int (iI 1), .int (iI v)] [v] := by
  intro D u dp a sc oc rl ou tl q hdu hdp hD hM hF
  have ht1 := ht.1
  obtain ⟨hv, hA, hW, hWr, hDp, hG⟩ := id hM
  obtain ⟨g1, g2⟩ := hG rfl
  replace g1 : sc 8010 = a := g1
  replace hW : sc 8011 = -1 := hW
  have hFu : 16 * ((tp.length : Int) - a) + 3 ≤ ((m + 1 : Nat) : Int) := hF
  refine CQ.of (own := 11) (n := 5) (ini := false) (rt := (some .boolean)) (cd := cd170) (by decide +kernel) rfl (by decide +kernel) rfl (Nat.le_of_ble_eq_true rfl) ?_
  rw [show rd tp (m + 1) 12 dp a = rsq (rd tp m 10 dp a) (rd tp m 11 dp) from rfl]
  refine RQ.seg 3 (pc' := 3) (L' := [some (.ref 80), some (.int (iI 1)), some (.int (iI v)), none, none]) (st' := [.int (iI v), .int (iI 1), .ref 80]) (g1 := (HW sc ar 82 oc rl ou tl, q)) rfl ?_
  refine RQ.callQ rfl rfl (CQ.up (p (D - 1) u dp a sc oc rl ou tl q hdu hdp (by omega) hM (by show 16 * ((tp.length : Int) - a) + 2 ≤ (m : Int); omega)) (by omega)) (fun rv9 g9 hc9 => ?_)
  obtain ⟨z, sc1, rfl, hz, rfl, hs1, hM1, hev⟩ := hc9
  have hz1 := hz.2
  have hS1 : Same muF sc sc1 := Same.tr (by repeat (first | exact Same.rf | refine Same.us rfl ?_)) hs1
  obtain ⟨hv_1, hA_1, hW_1, hWr_1, hD_1, hG_1⟩ := id hM1
  rcases (show z = 0 ∨ z = 1 by have := hz.1 rfl; omega) with rfl | rfl
  · skip
    refine RQ.seg 1 (pc' := 7) (L' := [some (.ref 80), some (.int (iI 1)), some (.int (iI v)), some (.int (iI 0)), none]) (st' := []) (g1 := (HW sc1 ar 82 oc rl ou tl, q)) rfl ?_
    rcases Decidable.em ((rd tp m 10 dp a).1 = -1) with he1 | hE1
    · obtain ⟨k1, k2⟩ := hG_1 he1
      have hg : a + 1 ≤ (rd tp m 10 dp a).2.1 ∧ _ := ((rd_ok (tp := tp) m).at 10 dp (a := a) (by omega)).2 he1
      refine RQ.im (l D u dp (rd tp m 10 dp a).2.1 0 1 v none sc1 oc rl ou tl q hdu hdp hD ⟨hv_1, hA_1, hW_1.trans he1, by show (-1 : Int) ≤ -1 ∧ (-1 : Int) ≤ 160; omega, hD_1, fun _ => ⟨k1, k2⟩⟩ (by show 16 * ((tp.length : Int) - (rd tp m 10 dp a).2.1) + 1 ≤ (m : Int); omega) (by omega)) (fun vv gg hq => ?_)
      obtain ⟨z9, sc9, e9, hz9, e8, hs9, hM9, hev9⟩ := hq
      rw [rsq_p he1]
      refine ⟨z9, sc9, e9, hz9, e8, hs1.tr hs9, hM9, fun zz st => ?_⟩
      show ev _ ((rd tp m 10 dp a).2.2 ++ (rd tp m 11 dp (rd tp m 10 dp a).2.1).2.2) (v :: st) = z9 :: st
      rw [ev_app, show ev (fun k => ar 84 (kc3 k)) (rd tp m 10 dp a).2.2 (v :: st) = 0 :: st from hev he1 st]
      exact hev9 zz st
    · rw [rsq_b hE1]
      have hwn : ¬ sc1 8011 = -1 := by omega
      refine RQ.seg 3 (pc' := 12) (L' := [some (.ref 80), some (.int (iI 1)), some (.int (iI v)), some (.int (iI 0)), none]) (st' := [.int (iI (-1)), .int (iI (sc1 8011))]) (g1 := (HW sc1 ar 82 oc rl ou tl, q)) rfl ?_
      refine RQ.if2 (a := (sc1 8011)) (b := (-1)) rfl rfl rfl rfl (by omega) (by omega) (fun _ => ?_) (fun (q : ¬ sc1 8011 ≠ (-1)) => absurd (show sc1 8011 ≠ (-1) from by omega) q)
      refine RQ.seg 1 (pc' := 61) (L' := [some (.ref 80), some (.int (iI 1)), some (.int (iI v)), some (.int (iI 0)), none]) (st' := [.int (iI 0)]) (g1 := (HW sc1 ar 82 oc rl ou tl, q)) rfl ?_
      refine RQ.ret rfl rfl ?_
      exact ⟨_, sc1, rfl, ⟨fun _ => by omega, by omega, by omega⟩, rfl, hs1, hM1, fun z9 => absurd z9 hE1⟩
  · skip
    refine RQ.seg 1 (pc' := 7) (L' := [some (.ref 80), some (.int (iI 1)), some (.int (iI v)), some (.int (iI 1)), none]) (st' := []) (g1 := (HW sc1 ar 82 oc rl ou tl, q)) rfl ?_
    rcases Decidable.em ((rd tp m 10 dp a).1 = -1) with he1 | hE1
    · obtain ⟨k1, k2⟩ := hG_1 he1
      have hg : a + 1 ≤ (rd tp m 10 dp a).2.1 ∧ _ := ((rd_ok (tp := tp) m).at 10 dp (a := a) (by omega)).2 he1
      refine RQ.im (l D u dp (rd tp m 10 dp a).2.1 1 1 v none sc1 oc rl ou tl q hdu hdp hD ⟨hv_1, hA_1, hW_1.trans he1, by show (-1 : Int) ≤ -1 ∧ (-1 : Int) ≤ 160; omega, hD_1, fun _ => ⟨k1, k2⟩⟩ (by show 16 * ((tp.length : Int) - (rd tp m 10 dp a).2.1) + 1 ≤ (m : Int); omega) (by omega)) (fun vv gg hq => ?_)
      obtain ⟨z9, sc9, e9, hz9, e8, hs9, hM9, hev9⟩ := hq
      rw [rsq_p he1]
      refine ⟨z9, sc9, e9, hz9, e8, hs1.tr hs9, hM9, fun zz st => ?_⟩
      show ev _ ((rd tp m 10 dp a).2.2 ++ (rd tp m 11 dp (rd tp m 10 dp a).2.1).2.2) (v :: st) = z9 :: st
      rw [ev_app, show ev (fun k => ar 84 (kc3 k)) (rd tp m 10 dp a).2.2 (v :: st) = 1 :: st from hev he1 st]
      exact hev9 zz st
    · rw [rsq_b hE1]
      have hwn : ¬ sc1 8011 = -1 := by omega
      refine RQ.seg 3 (pc' := 12) (L' := [some (.ref 80), some (.int (iI 1)), some (.int (iI v)), some (.int (iI 1)), none]) (st' := [.int (iI (-1)), .int (iI (sc1 8011))]) (g1 := (HW sc1 ar 82 oc rl ou tl, q)) rfl ?_
      refine RQ.if2 (a := (sc1 8011)) (b := (-1)) rfl rfl rfl rfl (by omega) (by omega) (fun _ => ?_) (fun (q : ¬ sc1 8011 ≠ (-1)) => absurd (show sc1 8011 ≠ (-1) from by omega) q)
      refine RQ.seg 1 (pc' := 61) (L' := [some (.ref 80), some (.int (iI 1)), some (.int (iI v)), some (.int (iI 1)), none]) (st' := [.int (iI 1)]) (g1 := (HW sc1 ar 82 oc rl ou tl, q)) rfl ?_
      refine RQ.ret rfl rfl ?_
      exact ⟨_, sc1, rfl, ⟨fun _ => by omega, by omega, by omega⟩, rfl, hs1, hM1, fun z9 => absurd z9 hE1⟩
def MP_82 (K : PK) (tp : List Int) (bg : Int) (ar : Nat → Int → Int) (m : Nat) : Prop := MC K tp bg 640 82 ar m 0 163 5 [] [] ∧ MC K tp bg 640 82 ar m 1 164 6 [] [] ∧ MC K tp bg 640 82 ar m 2 165 7 [] [] ∧ MC K tp bg 640 82 ar m 3 168 9 [] [] ∧ MC K tp bg 640 82 ar m 4 169 10 [.int (iI 0), .int (iI 0)] [] ∧ MC K tp bg 640 82 ar m 5 170 11 [.int (iI 0), .int (iI 0)] [] ∧ ML6_82 K tp bg ar m ∧ ML7_82 K tp bg ar m ∧ ML8_82 K tp bg ar m ∧ ML9_82 K tp bg ar m ∧ ML11_82 K tp bg ar m ∧ (∀ v : Int, -1000000 ≤ v ∧ v ≤ 1000000 → MC K tp bg 640 82 ar m 10 169 10 [.int (iI 1), .int (iI v)] [v]) ∧ (∀ v : Int, -1000000 ≤ v ∧ v ≤ 1000000 → MC K tp bg 640 82 ar m 12 170 11 [.int (iI 1), .int (iI v)] [v])
theorem mz82 {K : PK} {tp : List Int} {bg : Int} {ar : Nat → Int → Int} {nt k D0 : Nat} {xs : List Value} {ins : List Int} (hn : 1 ≤ nrk nt) : MC K tp bg 640 82 ar 0 nt k D0 xs ins := by
  intro D u dp a sc oc rl ou tl q hdu hdp hD hM hF
  exfalso
  obtain ⟨hv, hA, hW, hWr, hDp, hG⟩ := id hM
  have g1 : sc 8010 = a := (hG rfl).1
  have hFu : 16 * ((tp.length : Int) - a) + nrk nt ≤ ((0 : Nat) : Int) := hF
  omega
theorem mzl82_6 {K : PK} {tp : List Int} {bg : Int} {ar : Nat → Int → Int} : ML6_82 K tp bg ar 0 := by
  intro D u dp a v e2 e3 e4 sc oc rl ou tl q hdu hdp hD hM hF rv
  exfalso
  obtain ⟨hv, hA, hW, hWr, hDp, hG⟩ := id hM
  have g1 : sc 8010 = a := (hG rfl).1
  have hFu : 16 * ((tp.length : Int) - a) + 1 ≤ ((0 : Nat) : Int) := hF
  omega
theorem mzl82_7 {K : PK} {tp : List Int} {bg : Int} {ar : Nat → Int → Int} : ML7_82 K tp bg ar 0 := by
  intro D u dp a v e2 e3 e4 sc oc rl ou tl q hdu hdp hD hM hF rv
  exfalso
  obtain ⟨hv, hA, hW, hWr, hDp, hG⟩ := id hM
  have g1 : sc 8010 = a := (hG rfl).1
  have hFu : 16 * ((tp.length : Int) - a) + 1 ≤ ((0 : Nat) : Int) := hF
  omega
theorem mzl82_8 {K : PK} {tp : List Int} {bg : Int} {ar : Nat → Int → Int} : ML8_82 K tp bg ar 0 := by
  intro D u dp a v s1 s2 e4 e5 sc oc rl ou tl q hdu hdp hD hM hF rv
  exfalso
  obtain ⟨hv, hA, hW, hWr, hDp, hG⟩ := id hM
  have g1 : sc 8010 = a := (hG rfl).1
  have hFu : 16 * ((tp.length : Int) - a) + 1 ≤ ((0 : Nat) : Int) := hF
  omega
theorem mzl82_9 {K : PK} {tp : List Int} {bg : Int} {ar : Nat → Int → Int} : ML9_82 K tp bg ar 0 := by
  intro D u dp a v s1 s2 e4 sc oc rl ou tl q hdu hdp hD hM hF rv
  exfalso
  obtain ⟨hv, hA, hW, hWr, hDp, hG⟩ := id hM
  have g1 : sc 8010 = a := (hG rfl).1
  have hFu : 16 * ((tp.length : Int) - a) + 1 ≤ ((0 : Nat) : Int) := hF
  omega
theorem mzl82_11 {K : PK} {tp : List Int} {bg : Int} {ar : Nat → Int → Int} : ML11_82 K tp bg ar 0 := by
  intro D u dp a v s1 s2 e4 sc oc rl ou tl q hdu hdp hD hM hF rv
  exfalso
  obtain ⟨hv, hA, hW, hWr, hDp, hG⟩ := id hM
  have g1 : sc 8010 = a := (hG rfl).1
  have hFu : 16 * ((tp.length : Int) - a) + 1 ≤ ((0 : Nat) : Int) := hF
  omega
theorem mp82_all {K : PK} {tp : List Int} {bg : Int} {ar : Nat → Int → Int} (ht : TpOK tp) (hL : LtOK ar) : ∀ m, MP_82 K tp bg ar m
  | 0 => ⟨mz82 (by decide), mz82 (by decide), mz82 (by decide), mz82 (by decide), mz82 (by decide), mz82 (by decide), mzl82_6, mzl82_7, mzl82_8, mzl82_9, mzl82_11, fun _ _ => mz82 (by decide), fun _ _ => mz82 (by decide)⟩
  | m + 1 => by
    obtain ⟨p0, p1, p2, p3, p4, p5, l6, l7, l8, l9, l11, p10, p12⟩ := mp82_all ht hL m
    exact ⟨ms82_0 ht hL p2, ms82_1 ht p0 l6, ms82_2 ht p1 l7, ms82_3 ht p2 l8 p3 p5, ms82_4 ht p3 l9, ms82_5 ht p4 l11, ml82_6 ht p0 l6, ml82_7 ht p1 l7, ml82_8 ht p2, ml82_9 ht p3 l9, ml82_11 ht p4 l11, fun v rv => ms82_10 ht (mc82_8 ht l8 rv) l9, fun v rv => ms82_12 ht (p10 v rv) l11⟩
