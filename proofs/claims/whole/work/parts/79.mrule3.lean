/-! the reference reads a rule: sums, by wip/tools -/
/-! the reference reads a rule: sums -/
theorem ev_jn {L : Int → Int} {s l r : Int} {st : List Int} (h : -12 ≤ s ∧ s < 0 ∧ s ≠ -8) : ev L [s] (r :: l :: st) = jn s l r :: st := by
  show ev1 L s (r :: l :: st) = _
  unfold ev1
  rw [if_neg (by omega), if_neg (by omega), if_neg h.2.2]
  rfl
def ML7_81 (K : PK) (tp : List Int) (bg : Int) (ar : Nat → Int → Int) (m : Nat) : Prop := ∀ (D u : Nat) (dp a v : Int) (e2 e3 e4 : Option Value) (sc : Nat → Int) (oc : Nat) (rl : Nat → Option Nat) (ou : Nat → Int64) (tl : List PO) (q : Nat × Nat), dp + u = 6 → 0 ≤ dp → 6 * u + 7 ≤ D → MX tp bg 160 (-1, a, []) dp sc (ar 81) → Fu tp m 7 a → (-1000000 ≤ v ∧ v ≤ 1000000) → RQ K D 11 false (some .int) cd165 5 [some (.ref 80), some (.int (iI v)), e2, e3, e4] [] (HW sc ar 81 oc rl ou tl, q) (QM tp bg 160 81 7 (rd tp m 7 dp a) dp [v] sc ar oc rl ou tl q)
theorem ml81_7 {K : PK} {tp : List Int} {bg : Int} {ar : Nat → Int → Int} (ht : TpOK tp) {m : Nat} (p1 : MC K tp bg 160 81 ar m 1 164 6 [] []) (l7 : ML7_81 K tp bg ar m) : ML7_81 K tp bg ar (m + 1) := by
  intro D u dp a v e2 e3 e4 sc oc rl ou tl q hdu hdp hD hM hF rv
  have ht1 := ht.1
  obtain ⟨hv, hA, hW, hWr, hDp, hG⟩ := id hM
  obtain ⟨g1, g2⟩ := hG rfl
  replace g1 : sc 8010 = a := g1
  replace hW : sc 8011 = -1 := hW
  have hFu : 16 * ((tp.length : Int) - a) + 1 ≤ ((m + 1 : Nat) : Int) := hF
  have hsk := sk_r (tp := tp) (p := a) (by omega)
  have hlk : 0 ≤ lk tp a ∧ lk tp a ≤ 255 := tch_r ht (sk tp a)
  have hlm := lkm_r hlk
  refine RQ.seg 3 (pc' := 10) (L' := [some (.ref 80), some (.int (iI v)), e2, e3, e4]) (st' := [.int (iI (-1)), .int (iI (sc 8011))]) (g1 := (HW sc ar 81 oc rl ou tl, q)) rfl ?_
  refine RQ.if2 (a := (sc 8011)) (b := (-1)) rfl rfl rfl rfl (by omega) (by omega) (fun (q : sc 8011 ≠ (-1)) => absurd q (show ¬ sc 8011 ≠ (-1) from by omega)) (fun _ => ?_)
  refine RQ.seg 1 (pc' := 14) (L' := [some (.ref 80), some (.int (iI v)), e2, e3, e4]) (st' := [.ref 80]) (g1 := (HW sc ar 81 oc rl ou tl, q)) rfl ?_
  refine RQ.call rfl rfl (CallR.up (d := 1) (m_look81 (d := 0) (sc := sc) (ar := ar) (a := a) ht hv g1 (by omega)) (by omega)) ?_
  refine RQ.seg 1 (pc' := 19) (L' := [some (.ref 80), some (.int (iI v)), e2, e3, e4]) (st' := [.int (iI 43), .int (iI (lkm (lk tp a)))]) (g1 := (HW (usc sc 8010 (sk tp a)) ar 81 oc rl ou tl, q)) rfl ?_
  refine RQ.if2 (a := (lkm (lk tp a))) (b := 43) rfl rfl rfl rfl (by omega) (by omega) (fun (h2 : lkm (lk tp a) = 43) => ?_) (fun (h2 : ¬ lkm (lk tp a) = 43) => ?_)
  · skip
    refine RQ.seg 1 (pc' := 32) (L' := [some (.ref 80), some (.int (iI v)), e2, e3, e4]) (st' := [.ref 80]) (g1 := (HW (usc sc 8010 (sk tp a)) ar 81 oc rl ou tl, q)) rfl ?_
    have hcall := m_look81 (K := K) (d := 0) (oc := oc) (rl := rl) (ou := ou) (tl := tl) (q := q) (sc := usc sc 8010 (sk tp a)) (ar := ar) (a := sk tp a) ht hv rfl (by omega)
    rw [lk_sk, sk_sk] at hcall
    refine RQ.call rfl rfl (CallR.up hcall (by omega)) ?_
    refine RQ.hp (g1 := (HW (usc sc 8010 (sk tp a)) ar 81 oc rl ou tl, q)) (HW_e (by rw [usc_uu _ 8010 _ _]; try rfl) rfl) ?_
    refine RQ.seg 1 (pc' := 37) (L' := [some (.ref 80), some (.int (iI v)), e2, e3, e4]) (st' := [.int (iI 43), .int (iI (lkm (lk tp a)))]) (g1 := (HW (usc sc 8010 (sk tp a)) ar 81 oc rl ou tl, q)) rfl ?_
    refine RQ.if2 (a := (lkm (lk tp a))) (b := 43) rfl rfl rfl rfl (by omega) (by omega) (fun (h3 : lkm (lk tp a) ≠ 43) => ?_) (fun (h3 : ¬ lkm (lk tp a) ≠ 43) => ?_)
    · skip
      refine RQ.seg 7 (pc' := 53) (L' := [some (.ref 80), some (.int (iI v)), some (.int (iI 0)), e3, e4]) (st' := [.int ((iI (sk tp a)) + (iI 1)), .ref 80]) (g1 := (HW (usc sc 8010 (sk tp a)) ar 81 oc rl ou tl, q)) rfl ?_
      refine RQ.to (L' := [some (.ref 80), some (.int (iI v)), some (.int (iI 0)), e3, e4]) (st' := [.int (iI (sk tp a + 1)), .ref 80]) rfl (by simp only [iI_add, iI_sub, iI_mul, iI_neg]) ?_
      refine RQ.seg 2 (pc' := 57) (L' := [some (.ref 80), some (.int (iI v)), some (.int (iI 0)), e3, e4]) (st' := [.ref 80]) (g1 := (HW (usc sc 8010 (sk tp a + 1)) ar 81 oc rl ou tl, q)) rfl ?_
      have hps := lk_in (tp := tp) (a := a) (by omega) (by omega)
      refine RQ.callQ rfl rfl (CQ.up (p1 (D - 1) u dp (sk tp a + 1) (usc sc 8010 (sk tp a + 1)) oc rl ou tl q hdu hdp (by omega) ⟨hv, by show 0 ≤ sk tp a + 1 ∧ sk tp a + 1 ≤ _; omega, hW, hWr, hDp, fun _ => ⟨rfl, g2⟩⟩ (by show 16 * ((tp.length : Int) - (sk tp a + 1)) + 2 ≤ (m : Int); omega)) (by omega)) (fun rv9 g9 hc9 => ?_)
      obtain ⟨z, sc1, rfl, hz, rfl, hs1, hM1, hev⟩ := hc9
      have hz1 := hz.2
      have hS1 : Same muF sc sc1 := Same.tr (by repeat (first | exact Same.rf | refine Same.us rfl ?_)) hs1
      obtain ⟨hv_1, hA_1, hW_1, hWr_1, hD_1, hG_1⟩ := id hM1
      refine RQ.seg 1 (pc' := 61) (L' := [some (.ref 80), some (.int (iI v)), some (.int (iI 0)), e3, e4]) (st' := [.long ((iI z).toInt64)]) (g1 := (HW sc1 ar 81 oc rl ou tl, q)) rfl ?_
      refine RQ.to (L' := [some (.ref 80), some (.int (iI v)), some (.int (iI 0)), e3, e4]) (st' := [.long (lL z)]) rfl (by rw [iI_64 (by omega)]) ?_
      refine RQ.seg 4 (pc' := 74) (L' := [some (.ref 80), some (.int (iI v)), some (.int (iI 0)), some (.long (lL z)), none]) (st' := [.int (iI v)]) (g1 := (HW sc1 ar 81 oc rl ou tl, q)) rfl ?_
      refine RQ.seg 1 (pc' := 75) (L' := [some (.ref 80), some (.int (iI v)), some (.int (iI 0)), some (.long (lL z)), none]) (st' := [.long ((iI v).toInt64)]) (g1 := (HW sc1 ar 81 oc rl ou tl, q)) rfl ?_
      refine RQ.to (L' := [some (.ref 80), some (.int (iI v)), some (.int (iI 0)), some (.long (lL z)), none]) (st' := [.long (lL v)]) rfl (by rw [iI_64 (by omega)]) ?_
      refine RQ.seg 2 (pc' := 77) (L' := [some (.ref 80), some (.int (iI v)), some (.int (iI 0)), some (.long (lL z)), none]) (st' := [.long ((lL v) - (lL z))]) (g1 := (HW sc1 ar 81 oc rl ou tl, q)) rfl ?_
      refine RQ.to (L' := [some (.ref 80), some (.int (iI v)), some (.int (iI 0)), some (.long (lL z)), none]) (st' := [.long (lL (v - z))]) rfl (by simp only [iI_add, iI_sub, iI_mul, iI_neg, lL_add, lL_sub, lL_mul]) ?_
      refine RQ.call rfl rfl (CallR.up (d := 2) (m_within (d := 0) (v := v - z) (by omega)) (by omega)) ?_
      refine RQ.seg 2 (pc' := 5) (L' := [some (.ref 80), some (.int (iI (wi (v - z)))), some (.int (iI 0)), some (.long (lL z)), none]) (st' := []) (g1 := (HW sc1 ar 81 oc rl ou tl, q)) rfl ?_
      have hwi := wi_r (v - z)
      have hj : jn (-2) v z = wi (v - z) := rfl
      rw [show rd tp (m + 1) 7 dp a = rsq (rap (rd tp m 1 dp (sk tp a + 1)) (-2)) (rd tp m 7 dp) by show rSl tp (rd tp m) dp a = _; unfold rSl; rw [if_pos (by omega), if_neg (by omega)]]
      rcases Decidable.em ((rd tp m 1 dp (sk tp a + 1)).1 = -1) with he1 | hE1
      · obtain ⟨k1, k2⟩ := hG_1 he1
        have hg := ((rd_ok (tp := tp) m).at 1 dp (a := sk tp a + 1) (by omega)).2 he1
        replace hg : sk tp a + 1 + 1 ≤ (rd tp m 1 dp (sk tp a + 1)).2.1 ∧ _ := hg
        refine RQ.im (l7 D u dp (rd tp m 1 dp (sk tp a + 1)).2.1 (wi (v - z)) _ _ _ sc1 oc rl ou tl q hdu hdp hD ⟨hv_1, hA_1, hW_1.trans he1, by show (-1 : Int) ≤ -1 ∧ (-1 : Int) ≤ 160; omega, hD_1, fun _ => ⟨k1, k2⟩⟩ (by show 16 * ((tp.length : Int) - (rd tp m 1 dp (sk tp a + 1)).2.1) + 1 ≤ (m : Int); omega) hwi) (fun vv gg hq => ?_)
        obtain ⟨z9, sc9, e9, hz9, e8, hs9, hM9, hev9⟩ := hq
        have eR : rsq (rap (rd tp m 1 dp (sk tp a + 1)) (-2)) (rd tp m 7 dp) = pre ((rd tp m 1 dp (sk tp a + 1)).2.2 ++ [-2]) (rd tp m 7 dp (rd tp m 1 dp (sk tp a + 1)).2.1) := rsq_p (r := rap (rd tp m 1 dp (sk tp a + 1)) (-2)) he1
        rw [eR]
        refine ⟨z9, sc9, e9, hz9, e8, hS1.tr hs9, hM9, fun zz st => ?_⟩
        show ev _ (((rd tp m 1 dp (sk tp a + 1)).2.2 ++ [-2]) ++ (rd tp m 7 dp (rd tp m 1 dp (sk tp a + 1)).2.1).2.2) (v :: st) = z9 :: st
        rw [ev_app, ev_app, show ev (fun k => ar 84 (kc3 k)) (rd tp m 1 dp (sk tp a + 1)).2.2 (v :: st) = z :: v :: st from hev he1 (v :: st), ev_jn (by omega), hj]
        exact hev9 zz st
      · rw [rsq_b (show ¬ (rap (rd tp m 1 dp (sk tp a + 1)) (-2)).1 = -1 from hE1)]
        have hwn : ¬ sc1 8011 = -1 := by omega
        refine RQ.seg 3 (pc' := 10) (L' := [some (.ref 80), some (.int (iI (wi (v - z)))), some (.int (iI 0)), some (.long (lL z)), none]) (st' := [.int (iI (-1)), .int (iI (sc1 8011))]) (g1 := (HW sc1 ar 81 oc rl ou tl, q)) rfl ?_
        refine RQ.if2 (a := (sc1 8011)) (b := (-1)) rfl rfl rfl rfl (by omega) (by omega) (fun _ => ?_) (fun (q : ¬ sc1 8011 ≠ (-1)) => absurd (show sc1 8011 ≠ (-1) from by omega) q)
        refine RQ.seg 1 (pc' := 85) (L' := [some (.ref 80), some (.int (iI (wi (v - z)))), some (.int (iI 0)), some (.long (lL z)), none]) (st' := [.int (iI (wi (v - z)))]) (g1 := (HW sc1 ar 81 oc rl ou tl, q)) rfl ?_
        refine RQ.ret rfl rfl ?_
        exact ⟨_, sc1, rfl, ⟨fun z9 => absurd z9 (by decide), hwi⟩, rfl, hS1, hM1, fun z9 => absurd z9 hE1⟩
    · skip
      refine RQ.seg 8 (pc' := 53) (L' := [some (.ref 80), some (.int (iI v)), some (.int (iI 1)), e3, e4]) (st' := [.int ((iI (sk tp a)) + (iI 1)), .ref 80]) (g1 := (HW (usc sc 8010 (sk tp a)) ar 81 oc rl ou tl, q)) rfl ?_
      refine RQ.to (L' := [some (.ref 80), some (.int (iI v)), some (.int (iI 1)), e3, e4]) (st' := [.int (iI (sk tp a + 1)), .ref 80]) rfl (by simp only [iI_add, iI_sub, iI_mul, iI_neg]) ?_
      refine RQ.seg 2 (pc' := 57) (L' := [some (.ref 80), some (.int (iI v)), some (.int (iI 1)), e3, e4]) (st' := [.ref 80]) (g1 := (HW (usc sc 8010 (sk tp a + 1)) ar 81 oc rl ou tl, q)) rfl ?_
      have hps := lk_in (tp := tp) (a := a) (by omega) (by omega)
      refine RQ.callQ rfl rfl (CQ.up (p1 (D - 1) u dp (sk tp a + 1) (usc sc 8010 (sk tp a + 1)) oc rl ou tl q hdu hdp (by omega) ⟨hv, by show 0 ≤ sk tp a + 1 ∧ sk tp a + 1 ≤ _; omega, hW, hWr, hDp, fun _ => ⟨rfl, g2⟩⟩ (by show 16 * ((tp.length : Int) - (sk tp a + 1)) + 2 ≤ (m : Int); omega)) (by omega)) (fun rv9 g9 hc9 => ?_)
      obtain ⟨z, sc1, rfl, hz, rfl, hs1, hM1, hev⟩ := hc9
      have hz1 := hz.2
      have hS1 : Same muF sc sc1 := Same.tr (by repeat (first | exact Same.rf | refine Same.us rfl ?_)) hs1
      obtain ⟨hv_1, hA_1, hW_1, hWr_1, hD_1, hG_1⟩ := id hM1
      refine RQ.seg 1 (pc' := 61) (L' := [some (.ref 80), some (.int (iI v)), some (.int (iI 1)), e3, e4]) (st' := [.long ((iI z).toInt64)]) (g1 := (HW sc1 ar 81 oc rl ou tl, q)) rfl ?_
      refine RQ.to (L' := [some (.ref 80), some (.int (iI v)), some (.int (iI 1)), e3, e4]) (st' := [.long (lL z)]) rfl (by rw [iI_64 (by omega)]) ?_
      refine RQ.seg 4 (pc' := 67) (L' := [some (.ref 80), some (.int (iI v)), some (.int (iI 1)), some (.long (lL z)), none]) (st' := [.int (iI v)]) (g1 := (HW sc1 ar 81 oc rl ou tl, q)) rfl ?_
      refine RQ.seg 1 (pc' := 68) (L' := [some (.ref 80), some (.int (iI v)), some (.int (iI 1)), some (.long (lL z)), none]) (st' := [.long ((iI v).toInt64)]) (g1 := (HW sc1 ar 81 oc rl ou tl, q)) rfl ?_
      refine RQ.to (L' := [some (.ref 80), some (.int (iI v)), some (.int (iI 1)), some (.long (lL z)), none]) (st' := [.long (lL v)]) rfl (by rw [iI_64 (by omega)]) ?_
      refine RQ.seg 3 (pc' := 77) (L' := [some (.ref 80), some (.int (iI v)), some (.int (iI 1)), some (.long (lL z)), none]) (st' := [.long ((lL v) + (lL z))]) (g1 := (HW sc1 ar 81 oc rl ou tl, q)) rfl ?_
      refine RQ.to (L' := [some (.ref 80), some (.int (iI v)), some (.int (iI 1)), some (.long (lL z)), none]) (st' := [.long (lL (v + z))]) rfl (by simp only [iI_add, iI_sub, iI_mul, iI_neg, lL_add, lL_sub, lL_mul]) ?_
      refine RQ.call rfl rfl (CallR.up (d := 2) (m_within (d := 0) (v := v + z) (by omega)) (by omega)) ?_
      refine RQ.seg 2 (pc' := 5) (L' := [some (.ref 80), some (.int (iI (wi (v + z)))), some (.int (iI 1)), some (.long (lL z)), none]) (st' := []) (g1 := (HW sc1 ar 81 oc rl ou tl, q)) rfl ?_
      have hwi := wi_r (v + z)
      have hj : jn (-1) v z = wi (v + z) := rfl
      rw [show rd tp (m + 1) 7 dp a = rsq (rap (rd tp m 1 dp (sk tp a + 1)) (-1)) (rd tp m 7 dp) by show rSl tp (rd tp m) dp a = _; unfold rSl; rw [if_pos (by omega), if_pos (by omega)]]
      rcases Decidable.em ((rd tp m 1 dp (sk tp a + 1)).1 = -1) with he1 | hE1
      · obtain ⟨k1, k2⟩ := hG_1 he1
        have hg := ((rd_ok (tp := tp) m).at 1 dp (a := sk tp a + 1) (by omega)).2 he1
        replace hg : sk tp a + 1 + 1 ≤ (rd tp m 1 dp (sk tp a + 1)).2.1 ∧ _ := hg
        refine RQ.im (l7 D u dp (rd tp m 1 dp (sk tp a + 1)).2.1 (wi (v + z)) _ _ _ sc1 oc rl ou tl q hdu hdp hD ⟨hv_1, hA_1, hW_1.trans he1, by show (-1 : Int) ≤ -1 ∧ (-1 : Int) ≤ 160; omega, hD_1, fun _ => ⟨k1, k2⟩⟩ (by show 16 * ((tp.length : Int) - (rd tp m 1 dp (sk tp a + 1)).2.1) + 1 ≤ (m : Int); omega) hwi) (fun vv gg hq => ?_)
        obtain ⟨z9, sc9, e9, hz9, e8, hs9, hM9, hev9⟩ := hq
        have eR : rsq (rap (rd tp m 1 dp (sk tp a + 1)) (-1)) (rd tp m 7 dp) = pre ((rd tp m 1 dp (sk tp a + 1)).2.2 ++ [-1]) (rd tp m 7 dp (rd tp m 1 dp (sk tp a + 1)).2.1) := rsq_p (r := rap (rd tp m 1 dp (sk tp a + 1)) (-1)) he1
        rw [eR]
        refine ⟨z9, sc9, e9, hz9, e8, hS1.tr hs9, hM9, fun zz st => ?_⟩
        show ev _ (((rd tp m 1 dp (sk tp a + 1)).2.2 ++ [-1]) ++ (rd tp m 7 dp (rd tp m 1 dp (sk tp a + 1)).2.1).2.2) (v :: st) = z9 :: st
        rw [ev_app, ev_app, show ev (fun k => ar 84 (kc3 k)) (rd tp m 1 dp (sk tp a + 1)).2.2 (v :: st) = z :: v :: st from hev he1 (v :: st), ev_jn (by omega), hj]
        exact hev9 zz st
      · rw [rsq_b (show ¬ (rap (rd tp m 1 dp (sk tp a + 1)) (-1)).1 = -1 from hE1)]
        have hwn : ¬ sc1 8011 = -1 := by omega
        refine RQ.seg 3 (pc' := 10) (L' := [some (.ref 80), some (.int (iI (wi (v + z)))), some (.int (iI 1)), some (.long (lL z)), none]) (st' := [.int (iI (-1)), .int (iI (sc1 8011))]) (g1 := (HW sc1 ar 81 oc rl ou tl, q)) rfl ?_
        refine RQ.if2 (a := (sc1 8011)) (b := (-1)) rfl rfl rfl rfl (by omega) (by omega) (fun _ => ?_) (fun (q : ¬ sc1 8011 ≠ (-1)) => absurd (show sc1 8011 ≠ (-1) from by omega) q)
        refine RQ.seg 1 (pc' := 85) (L' := [some (.ref 80), some (.int (iI (wi (v + z)))), some (.int (iI 1)), some (.long (lL z)), none]) (st' := [.int (iI (wi (v + z)))]) (g1 := (HW sc1 ar 81 oc rl ou tl, q)) rfl ?_
        refine RQ.ret rfl rfl ?_
        exact ⟨_, sc1, rfl, ⟨fun z9 => absurd z9 (by decide), hwi⟩, rfl, hS1, hM1, fun z9 => absurd z9 hE1⟩
  · skip
    refine RQ.seg 1 (pc' := 23) (L' := [some (.ref 80), some (.int (iI v)), e2, e3, e4]) (st' := [.ref 80]) (g1 := (HW (usc sc 8010 (sk tp a)) ar 81 oc rl ou tl, q)) rfl ?_
    have hcall := m_look81 (K := K) (d := 0) (oc := oc) (rl := rl) (ou := ou) (tl := tl) (q := q) (sc := usc sc 8010 (sk tp a)) (ar := ar) (a := sk tp a) ht hv rfl (by omega)
    rw [lk_sk, sk_sk] at hcall
    refine RQ.call rfl rfl (CallR.up hcall (by omega)) ?_
    refine RQ.hp (g1 := (HW (usc sc 8010 (sk tp a)) ar 81 oc rl ou tl, q)) (HW_e (by rw [usc_uu _ 8010 _ _]; try rfl) rfl) ?_
    refine RQ.seg 1 (pc' := 28) (L' := [some (.ref 80), some (.int (iI v)), e2, e3, e4]) (st' := [.int (iI 45), .int (iI (lkm (lk tp a)))]) (g1 := (HW (usc sc 8010 (sk tp a)) ar 81 oc rl ou tl, q)) rfl ?_
    refine RQ.if2 (a := (lkm (lk tp a))) (b := 45) rfl rfl rfl rfl (by omega) (by omega) (fun (h6 : lkm (lk tp a) ≠ 45) => ?_) (fun (h6 : ¬ lkm (lk tp a) ≠ 45) => ?_)
    · skip
      refine RQ.seg 1 (pc' := 85) (L' := [some (.ref 80), some (.int (iI v)), e2, e3, e4]) (st' := [.int (iI v)]) (g1 := (HW (usc sc 8010 (sk tp a)) ar 81 oc rl ou tl, q)) rfl ?_
      refine RQ.ret rfl rfl ?_
      rw [show rd tp (m + 1) 7 dp a = (-1, sk tp a, []) by show rSl tp (rd tp m) dp a = _; unfold rSl; rw [if_neg (by omega)]]
      exact ⟨v, _, rfl, ⟨fun z9 => absurd z9 (by decide), rv⟩, rfl, (by repeat (first | exact Same.rf | refine Same.us rfl ?_)), ⟨hv, by show 0 ≤ sk tp a ∧ sk tp a ≤ _; omega, hW, hWr, hDp, fun _ => ⟨rfl, g2⟩⟩, fun _ st => rfl⟩
    · skip
      refine RQ.seg 1 (pc' := 32) (L' := [some (.ref 80), some (.int (iI v)), e2, e3, e4]) (st' := [.ref 80]) (g1 := (HW (usc sc 8010 (sk tp a)) ar 81 oc rl ou tl, q)) rfl ?_
      have hcall := m_look81 (K := K) (d := 0) (oc := oc) (rl := rl) (ou := ou) (tl := tl) (q := q) (sc := usc sc 8010 (sk tp a)) (ar := ar) (a := sk tp a) ht hv rfl (by omega)
      rw [lk_sk, sk_sk] at hcall
      refine RQ.call rfl rfl (CallR.up hcall (by omega)) ?_
      refine RQ.hp (g1 := (HW (usc sc 8010 (sk tp a)) ar 81 oc rl ou tl, q)) (HW_e (by rw [usc_uu _ 8010 _ _]; try rfl) rfl) ?_
      refine RQ.seg 1 (pc' := 37) (L' := [some (.ref 80), some (.int (iI v)), e2, e3, e4]) (st' := [.int (iI 43), .int (iI (lkm (lk tp a)))]) (g1 := (HW (usc sc 8010 (sk tp a)) ar 81 oc rl ou tl, q)) rfl ?_
      refine RQ.if2 (a := (lkm (lk tp a))) (b := 43) rfl rfl rfl rfl (by omega) (by omega) (fun (h7 : lkm (lk tp a) ≠ 43) => ?_) (fun (h7 : ¬ lkm (lk tp a) ≠ 43) => ?_)
      · skip
        refine RQ.seg 7 (pc' := 53) (L' := [some (.ref 80), some (.int (iI v)), some (.int (iI 0)), e3, e4]) (st' := [.int ((iI (sk tp a)) + (iI 1)), .ref 80]) (g1 := (HW (usc sc 8010 (sk tp a)) ar 81 oc rl ou tl, q)) rfl ?_
        refine RQ.to (L' := [some (.ref 80), some (.int (iI v)), some (.int (iI 0)), e3, e4]) (st' := [.int (iI (sk tp a + 1)), .ref 80]) rfl (by simp only [iI_add, iI_sub, iI_mul, iI_neg]) ?_
        refine RQ.seg 2 (pc' := 57) (L' := [some (.ref 80), some (.int (iI v)), some (.int (iI 0)), e3, e4]) (st' := [.ref 80]) (g1 := (HW (usc sc 8010 (sk tp a + 1)) ar 81 oc rl ou tl, q)) rfl ?_
        have hps := lk_in (tp := tp) (a := a) (by omega) (by omega)
        refine RQ.callQ rfl rfl (CQ.up (p1 (D - 1) u dp (sk tp a + 1) (usc sc 8010 (sk tp a + 1)) oc rl ou tl q hdu hdp (by omega) ⟨hv, by show 0 ≤ sk tp a + 1 ∧ sk tp a + 1 ≤ _; omega, hW, hWr, hDp, fun _ => ⟨rfl, g2⟩⟩ (by show 16 * ((tp.length : Int) - (sk tp a + 1)) + 2 ≤ (m : Int); omega)) (by omega)) (fun rv9 g9 hc9 => ?_)
        obtain ⟨z, sc1, rfl, hz, rfl, hs1, hM1, hev⟩ := hc9
        have hz1 := hz.2
        have hS1 : Same muF sc sc1 := Same.tr (by repeat (first | exact Same.rf | refine Same.us rfl ?_)) hs1
        obtain ⟨hv_1, hA_1, hW_1, hWr_1, hD_1, hG_1⟩ := id hM1
        refine RQ.seg 1 (pc' := 61) (L' := [some (.ref 80), some (.int (iI v)), some (.int (iI 0)), e3, e4]) (st' := [.long ((iI z).toInt64)]) (g1 := (HW sc1 ar 81 oc rl ou tl, q)) rfl ?_
        refine RQ.to (L' := [some (.ref 80), some (.int (iI v)), some (.int (iI 0)), e3, e4]) (st' := [.long (lL z)]) rfl (by rw [iI_64 (by omega)]) ?_
        refine RQ.seg 4 (pc' := 74) (L' := [some (.ref 80), some (.int (iI v)), some (.int (iI 0)), some (.long (lL z)), none]) (st' := [.int (iI v)]) (g1 := (HW sc1 ar 81 oc rl ou tl, q)) rfl ?_
        refine RQ.seg 1 (pc' := 75) (L' := [some (.ref 80), some (.int (iI v)), some (.int (iI 0)), some (.long (lL z)), none]) (st' := [.long ((iI v).toInt64)]) (g1 := (HW sc1 ar 81 oc rl ou tl, q)) rfl ?_
        refine RQ.to (L' := [some (.ref 80), some (.int (iI v)), some (.int (iI 0)), some (.long (lL z)), none]) (st' := [.long (lL v)]) rfl (by rw [iI_64 (by omega)]) ?_
        refine RQ.seg 2 (pc' := 77) (L' := [some (.ref 80), some (.int (iI v)), some (.int (iI 0)), some (.long (lL z)), none]) (st' := [.long ((lL v) - (lL z))]) (g1 := (HW sc1 ar 81 oc rl ou tl, q)) rfl ?_
        refine RQ.to (L' := [some (.ref 80), some (.int (iI v)), some (.int (iI 0)), some (.long (lL z)), none]) (st' := [.long (lL (v - z))]) rfl (by simp only [iI_add, iI_sub, iI_mul, iI_neg, lL_add, lL_sub, lL_mul]) ?_
        refine RQ.call rfl rfl (CallR.up (d := 2) (m_within (d := 0) (v := v - z) (by omega)) (by omega)) ?_
        refine RQ.seg 2 (pc' := 5) (L' := [some (.ref 80), some (.int (iI (wi (v - z)))), some (.int (iI 0)), some (.long (lL z)), none]) (st' := []) (g1 := (HW sc1 ar 81 oc rl ou tl, q)) rfl ?_
        have hwi := wi_r (v - z)
        have hj : jn (-2) v z = wi (v - z) := rfl
        rw [show rd tp (m + 1) 7 dp a = rsq (rap (rd tp m 1 dp (sk tp a + 1)) (-2)) (rd tp m 7 dp) by show rSl tp (rd tp m) dp a = _; unfold rSl; rw [if_pos (by omega), if_neg (by omega)]]
        rcases Decidable.em ((rd tp m 1 dp (sk tp a + 1)).1 = -1) with he1 | hE1
        · obtain ⟨k1, k2⟩ := hG_1 he1
          have hg := ((rd_ok (tp := tp) m).at 1 dp (a := sk tp a + 1) (by omega)).2 he1
          replace hg : sk tp a + 1 + 1 ≤ (rd tp m 1 dp (sk tp a + 1)).2.1 ∧ _ := hg
          refine RQ.im (l7 D u dp (rd tp m 1 dp (sk tp a + 1)).2.1 (wi (v - z)) _ _ _ sc1 oc rl ou tl q hdu hdp hD ⟨hv_1, hA_1, hW_1.trans he1, by show (-1 : Int) ≤ -1 ∧ (-1 : Int) ≤ 160; omega, hD_1, fun _ => ⟨k1, k2⟩⟩ (by show 16 * ((tp.length : Int) - (rd tp m 1 dp (sk tp a + 1)).2.1) + 1 ≤ (m : Int); omega) hwi) (fun vv gg hq => ?_)
          obtain ⟨z9, sc9, e9, hz9, e8, hs9, hM9, hev9⟩ := hq
          have eR : rsq (rap (rd tp m 1 dp (sk tp a + 1)) (-2)) (rd tp m 7 dp) = pre ((rd tp m 1 dp (sk tp a + 1)).2.2 ++ [-2]) (rd tp m 7 dp (rd tp m 1 dp (sk tp a + 1)).2.1) := rsq_p (r := rap (rd tp m 1 dp (sk tp a + 1)) (-2)) he1
          rw [eR]
          refine ⟨z9, sc9, e9, hz9, e8, hS1.tr hs9, hM9, fun zz st => ?_⟩
          show ev _ (((rd tp m 1 dp (sk tp a + 1)).2.2 ++ [-2]) ++ (rd tp m 7 dp (rd tp m 1 dp (sk tp a + 1)).2.1).2.2) (v :: st) = z9 :: st
          rw [ev_app, ev_app, show ev (fun k => ar 84 (kc3 k)) (rd tp m 1 dp (sk tp a + 1)).2.2 (v :: st) = z :: v :: st from hev he1 (v :: st), ev_jn (by omega), hj]
          exact hev9 zz st
        · rw [rsq_b (show ¬ (rap (rd tp m 1 dp (sk tp a + 1)) (-2)).1 = -1 from hE1)]
          have hwn : ¬ sc1 8011 = -1 := by omega
          refine RQ.seg 3 (pc' := 10) (L' := [some (.ref 80), some (.int (iI (wi (v - z)))), some (.int (iI 0)), some (.long (lL z)), none]) (st' := [.int (iI (-1)), .int (iI (sc1 8011))]) (g1 := (HW sc1 ar 81 oc rl ou tl, q)) rfl ?_
          refine RQ.if2 (a := (sc1 8011)) (b := (-1)) rfl rfl rfl rfl (by omega) (by omega) (fun _ => ?_) (fun (q : ¬ sc1 8011 ≠ (-1)) => absurd (show sc1 8011 ≠ (-1) from by omega) q)
          refine RQ.seg 1 (pc' := 85) (L' := [some (.ref 80), some (.int (iI (wi (v - z)))), some (.int (iI 0)), some (.long (lL z)), none]) (st' := [.int (iI (wi (v - z)))]) (g1 := (HW sc1 ar 81 oc rl ou tl, q)) rfl ?_
          refine RQ.ret rfl rfl ?_
          exact ⟨_, sc1, rfl, ⟨fun z9 => absurd z9 (by decide), hwi⟩, rfl, hS1, hM1, fun z9 => absurd z9 hE1⟩
      · skip
        refine RQ.seg 8 (pc' := 53) (L' := [some (.ref 80), some (.int (iI v)), some (.int (iI 1)), e3, e4]) (st' := [.int ((iI (sk tp a)) + (iI 1)), .ref 80]) (g1 := (HW (usc sc 8010 (sk tp a)) ar 81 oc rl ou tl, q)) rfl ?_
        refine RQ.to (L' := [some (.ref 80), some (.int (iI v)), some (.int (iI 1)), e3, e4]) (st' := [.int (iI (sk tp a + 1)), .ref 80]) rfl (by simp only [iI_add, iI_sub, iI_mul, iI_neg]) ?_
        refine RQ.seg 2 (pc' := 57) (L' := [some (.ref 80), some (.int (iI v)), some (.int (iI 1)), e3, e4]) (st' := [.ref 80]) (g1 := (HW (usc sc 8010 (sk tp a + 1)) ar 81 oc rl ou tl, q)) rfl ?_
        have hps := lk_in (tp := tp) (a := a) (by omega) (by omega)
        refine RQ.callQ rfl rfl (CQ.up (p1 (D - 1) u dp (sk tp a + 1) (usc sc 8010 (sk tp a + 1)) oc rl ou tl q hdu hdp (by omega) ⟨hv, by show 0 ≤ sk tp a + 1 ∧ sk tp a + 1 ≤ _; omega, hW, hWr, hDp, fun _ => ⟨rfl, g2⟩⟩ (by show 16 * ((tp.length : Int) - (sk tp a + 1)) + 2 ≤ (m : Int); omega)) (by omega)) (fun rv9 g9 hc9 => ?_)
        obtain ⟨z, sc1, rfl, hz, rfl, hs1, hM1, hev⟩ := hc9
        have hz1 := hz.2
        have hS1 : Same muF sc sc1 := Same.tr (by repeat (first | exact Same.rf | refine Same.us rfl ?_)) hs1
        obtain ⟨hv_1, hA_1, hW_1, hWr_1, hD_1, hG_1⟩ := id hM1
        refine RQ.seg 1 (pc' := 61) (L' := [some (.ref 80), some (.int (iI v)), some (.int (iI 1)), e3, e4]) (st' := [.long ((iI z).toInt64)]) (g1 := (HW sc1 ar 81 oc rl ou tl, q)) rfl ?_
        refine RQ.to (L' := [some (.ref 80), some (.int (iI v)), some (.int (iI 1)), e3, e4]) (st' := [.long (lL z)]) rfl (by rw [iI_64 (by omega)]) ?_
        refine RQ.seg 4 (pc' := 67) (L' := [some (.ref 80), some (.int (iI v)), some (.int (iI 1)), some (.long (lL z)), none]) (st' := [.int (iI v)]) (g1 := (HW sc1 ar 81 oc rl ou tl, q)) rfl ?_
        refine RQ.seg 1 (pc' := 68) (L' := [some (.ref 80), some (.int (iI v)), some (.int (iI 1)), some (.long (lL z)), none]) (st' := [.long ((iI v).toInt64)]) (g1 := (HW sc1 ar 81 oc rl ou tl, q)) rfl ?_
        refine RQ.to (L' := [some (.ref 80), some (.int (iI v)), some (.int (iI 1)), some (.long (lL z)), none]) (st' := [.long (lL v)]) rfl (by rw [iI_64 (by omega)]) ?_
        refine RQ.seg 3 (pc' := 77) (L' := [some (.ref 80), some (.int (iI v)), some (.int (iI 1)), some (.long (lL z)), none]) (st' := [.long ((lL v) + (lL z))]) (g1 := (HW sc1 ar 81 oc rl ou tl, q)) rfl ?_
        refine RQ.to (L' := [some (.ref 80), some (.int (iI v)), some (.int (iI 1)), some (.long (lL z)), none]) (st' := [.long (lL (v + z))]) rfl (by simp only [iI_add, iI_sub, iI_mul, iI_neg, lL_add, lL_sub, lL_mul]) ?_
        refine RQ.call rfl rfl (CallR.up (d := 2) (m_within (d := 0) (v := v + z) (by omega)) (by omega)) ?_
        refine RQ.seg 2 (pc' := 5) (L' := [some (.ref 80), some (.int (iI (wi (v + z)))), some (.int (iI 1)), some (.long (lL z)), none]) (st' := []) (g1 := (HW sc1 ar 81 oc rl ou tl, q)) rfl ?_
        have hwi := wi_r (v + z)
        have hj : jn (-1) v z = wi (v + z) := rfl
        rw [show rd tp (m + 1) 7 dp a = rsq (rap (rd tp m 1 dp (sk tp a + 1)) (-1)) (rd tp m 7 dp) by show rSl tp (rd tp m) dp a = _; unfold rSl; rw [if_pos (by omega), if_pos (by omega)]]
        rcases Decidable.em ((rd tp m 1 dp (sk tp a + 1)).1 = -1) with he1 | hE1
        · obtain ⟨k1, k2⟩ := hG_1 he1
          have hg := ((rd_ok (tp := tp) m).at 1 dp (a := sk tp a + 1) (by omega)).2 he1
          replace hg : sk tp a + 1 + 1 ≤ (rd tp m 1 dp (sk tp a + 1)).2.1 ∧ _ := hg
          refine RQ.im (l7 D u dp (rd tp m 1 dp (sk tp a + 1)).2.1 (wi (v + z)) _ _ _ sc1 oc rl ou tl q hdu hdp hD ⟨hv_1, hA_1, hW_1.trans he1, by show (-1 : Int) ≤ -1 ∧ (-1 : Int) ≤ 160; omega, hD_1, fun _ => ⟨k1, k2⟩⟩ (by show 16 * ((tp.length : Int) - (rd tp m 1 dp (sk tp a + 1)).2.1) + 1 ≤ (m : Int); omega) hwi) (fun vv gg hq => ?_)
          obtain ⟨z9, sc9, e9, hz9, e8, hs9, hM9, hev9⟩ := hq
          have eR : rsq (rap (rd tp m 1 dp (sk tp a + 1)) (-1)) (rd tp m 7 dp) = pre ((rd tp m 1 dp (sk tp a + 1)).2.2 ++ [-1]) (rd tp m 7 dp (rd tp m 1 dp (sk tp a + 1)).2.1) := rsq_p (r := rap (rd tp m 1 dp (sk tp a + 1)) (-1)) he1
          rw [eR]
          refine ⟨z9, sc9, e9, hz9, e8, hS1.tr hs9, hM9, fun zz st => ?_⟩
          show ev _ (((rd tp m 1 dp (sk tp a + 1)).2.2 ++ [-1]) ++ (rd tp m 7 dp (rd tp m 1 dp (sk tp a + 1)).2.1).2.2) (v :: st) = z9 :: st
          rw [ev_app, ev_app, show ev (fun k => ar 84 (kc3 k)) (rd tp m 1 dp (sk tp a + 1)).2.2 (v :: st) = z :: v :: st from hev he1 (v :: st), ev_jn (by omega), hj]
          exact hev9 zz st
        · rw [rsq_b (show ¬ (rap (rd tp m 1 dp (sk tp a + 1)) (-1)).1 = -1 from hE1)]
          have hwn : ¬ sc1 8011 = -1 := by omega
          refine RQ.seg 3 (pc' := 10) (L' := [some (.ref 80), some (.int (iI (wi (v + z)))), some (.int (iI 1)), some (.long (lL z)), none]) (st' := [.int (iI (-1)), .int (iI (sc1 8011))]) (g1 := (HW sc1 ar 81 oc rl ou tl, q)) rfl ?_
          refine RQ.if2 (a := (sc1 8011)) (b := (-1)) rfl rfl rfl rfl (by omega) (by omega) (fun _ => ?_) (fun (q : ¬ sc1 8011 ≠ (-1)) => absurd (show sc1 8011 ≠ (-1) from by omega) q)
          refine RQ.seg 1 (pc' := 85) (L' := [some (.ref 80), some (.int (iI (wi (v + z)))), some (.int (iI 1)), some (.long (lL z)), none]) (st' := [.int (iI (wi (v + z)))]) (g1 := (HW sc1 ar 81 oc rl ou tl, q)) rfl ?_
          refine RQ.ret rfl rfl ?_
          exact ⟨_, sc1, rfl, ⟨fun z9 => absurd z9 (by decide), hwi⟩, rfl, hS1, hM1, fun z9 => absurd z9 hE1⟩
def ML7_82 (K : PK) (tp : List Int) (bg : Int) (ar : Nat → Int → Int) (m : Nat) : Prop := ∀ (D u : Nat) (dp a v : Int) (e2 e3 e4 : Option Value) (sc : Nat → Int) (oc : Nat) (rl : Nat → Option Nat) (ou : Nat → Int64) (tl : List PO) (q : Nat × Nat), dp + u = 6 → 0 ≤ dp → 6 * u + 7 ≤ D → MX tp bg 640 (-1, a, []) dp sc (ar 82) → Fu tp m 7 a → (-1000000 ≤ v ∧ v ≤ 1000000) → RQ K D 11 false (some .int) cd165 5 [some (.ref 80), some (.int (iI v)), e2, e3, e4] [] (HW sc ar 82 oc rl ou tl, q) (QM tp bg 640 82 7 (rd tp m 7 dp a) dp [v] sc ar oc rl ou tl q)
theorem ml82_7 {K : PK} {tp : List Int} {bg : Int} {ar : Nat → Int → Int} (ht : TpOK tp) {m : Nat} (p1 : MC K tp bg 640 82 ar m 1 164 6 [] []) (l7 : ML7_82 K tp bg ar m) : ML7_82 K tp bg ar (m + 1) := by
  intro D u dp a v e2 e3 e4 sc oc rl ou tl q hdu hdp hD hM hF rv
  have ht1 := ht.1
  obtain ⟨hv, hA, hW, hWr, hDp, hG⟩ := id hM
  obtain ⟨g1, g2⟩ := hG rfl
  replace g1 : sc 8010 = a := g1
  replace hW : sc 8011 = -1 := hW
  have hFu : 16 * ((tp.length : Int) - a) + 1 ≤ ((m + 1 : Nat) : Int) := hF
  have hsk := sk_r (tp := tp) (p := a) (by omega)
  have hlk : 0 ≤ lk tp a ∧ lk tp a ≤ 255 := tch_r ht (sk tp a)
  have hlm := lkm_r hlk
  refine RQ.seg 3 (pc' := 10) (L' := [some (.ref 80), some (.int (iI v)), e2, e3, e4]) (st' := [.int (iI (-1)), .int (iI (sc 8011))]) (g1 := (HW sc ar 82 oc rl ou tl, q)) rfl ?_
  refine RQ.if2 (a := (sc 8011)) (b := (-1)) rfl rfl rfl rfl (by omega) (by omega) (fun (q : sc 8011 ≠ (-1)) => absurd q (show ¬ sc 8011 ≠ (-1) from by omega)) (fun _ => ?_)
  refine RQ.seg 1 (pc' := 14) (L' := [some (.ref 80), some (.int (iI v)), e2, e3, e4]) (st' := [.ref 80]) (g1 := (HW sc ar 82 oc rl ou tl, q)) rfl ?_
  refine RQ.call rfl rfl (CallR.up (d := 1) (m_look82 (d := 0) (sc := sc) (ar := ar) (a := a) ht hv g1 (by omega)) (by omega)) ?_
  refine RQ.seg 1 (pc' := 19) (L' := [some (.ref 80), some (.int (iI v)), e2, e3, e4]) (st' := [.int (iI 43), .int (iI (lkm (lk tp a)))]) (g1 := (HW (usc sc 8010 (sk tp a)) ar 82 oc rl ou tl, q)) rfl ?_
  refine RQ.if2 (a := (lkm (lk tp a))) (b := 43) rfl rfl rfl rfl (by omega) (by omega) (fun (h2 : lkm (lk tp a) = 43) => ?_) (fun (h2 : ¬ lkm (lk tp a) = 43) => ?_)
  · skip
    refine RQ.seg 1 (pc' := 32) (L' := [some (.ref 80), some (.int (iI v)), e2, e3, e4]) (st' := [.ref 80]) (g1 := (HW (usc sc 8010 (sk tp a)) ar 82 oc rl ou tl, q)) rfl ?_
    have hcall := m_look82 (K := K) (d := 0) (oc := oc) (rl := rl) (ou := ou) (tl := tl) (q := q) (sc := usc sc 8010 (sk tp a)) (ar := ar) (a := sk tp a) ht hv rfl (by omega)
    rw [lk_sk, sk_sk] at hcall
    refine RQ.call rfl rfl (CallR.up hcall (by omega)) ?_
    refine RQ.hp (g1 := (HW (usc sc 8010 (sk tp a)) ar 82 oc rl ou tl, q)) (HW_e (by rw [usc_uu _ 8010 _ _]; try rfl) rfl) ?_
    refine RQ.seg 1 (pc' := 37) (L' := [some (.ref 80), some (.int (iI v)), e2, e3, e4]) (st' := [.int (iI 43), .int (iI (lkm (lk tp a)))]) (g1 := (HW (usc sc 8010 (sk tp a)) ar 82 oc rl ou tl, q)) rfl ?_
    refine RQ.if2 (a := (lkm (lk tp a))) (b := 43) rfl rfl rfl rfl (by omega) (by omega) (fun (h3 : lkm (lk tp a) ≠ 43) => ?_) (fun (h3 : ¬ lkm (lk tp a) ≠ 43) => ?_)
    · skip
      refine RQ.seg 7 (pc' := 53) (L' := [some (.ref 80), some (.int (iI v)), some (.int (iI 0)), e3, e4]) (st' := [.int ((iI (sk tp a)) + (iI 1)), .ref 80]) (g1 := (HW (usc sc 8010 (sk tp a)) ar 82 oc rl ou tl, q)) rfl ?_
      refine RQ.to (L' := [some (.ref 80), some (.int (iI v)), some (.int (iI 0)), e3, e4]) (st' := [.int (iI (sk tp a + 1)), .ref 80]) rfl (by simp only [iI_add, iI_sub, iI_mul, iI_neg]) ?_
      refine RQ.seg 2 (pc' := 57) (L' := [some (.ref 80), some (.int (iI v)), some (.int (iI 0)), e3, e4]) (st' := [.ref 80]) (g1 := (HW (usc sc 8010 (sk tp a + 1)) ar 82 oc rl ou tl, q)) rfl ?_
      have hps := lk_in (tp := tp) (a := a) (by omega) (by omega)
      refine RQ.callQ rfl rfl (CQ.up (p1 (D - 1) u dp (sk tp a + 1) (usc sc 8010 (sk tp a + 1)) oc rl ou tl q hdu hdp (by omega) ⟨hv, by show 0 ≤ sk tp a + 1 ∧ sk tp a + 1 ≤ _; omega, hW, hWr, hDp, fun _ => ⟨rfl, g2⟩⟩ (by show 16 * ((tp.length : Int) - (sk tp a + 1)) + 2 ≤ (m : Int); omega)) (by omega)) (fun rv9 g9 hc9 => ?_)
      obtain ⟨z, sc1, rfl, hz, rfl, hs1, hM1, hev⟩ := hc9
      have hz1 := hz.2
      have hS1 : Same muF sc sc1 := Same.tr (by repeat (first | exact Same.rf | refine Same.us rfl ?_)) hs1
      obtain ⟨hv_1, hA_1, hW_1, hWr_1, hD_1, hG_1⟩ := id hM1
      refine RQ.seg 1 (pc' := 61) (L' := [some (.ref 80), some (.int (iI v)), some (.int (iI 0)), e3, e4]) (st' := [.long ((iI z).toInt64)]) (g1 := (HW sc1 ar 82 oc rl ou tl, q)) rfl ?_
      refine RQ.to (L' := [some (.ref 80), some (.int (iI v)), some (.int (iI 0)), e3, e4]) (st' := [.long (lL z)]) rfl (by rw [iI_64 (by omega)]) ?_
      refine RQ.seg 4 (pc' := 74) (L' := [some (.ref 80), some (.int (iI v)), some (.int (iI 0)), some (.long (lL z)), none]) (st' := [.int (iI v)]) (g1 := (HW sc1 ar 82 oc rl ou tl, q)) rfl ?_
      refine RQ.seg 1 (pc' := 75) (L' := [some (.ref 80), some (.int (iI v)), some (.int (iI 0)), some (.long (lL z)), none]) (st' := [.long ((iI v).toInt64)]) (g1 := (HW sc1 ar 82 oc rl ou tl, q)) rfl ?_
      refine RQ.to (L' := [some (.ref 80), some (.int (iI v)), some (.int (iI 0)), some (.long (lL z)), none]) (st' := [.long (lL v)]) rfl (by rw [iI_64 (by omega)]) ?_
      refine RQ.seg 2 (pc' := 77) (L' := [some (.ref 80), some (.int (iI v)), some (.int (iI 0)), some (.long (lL z)), none]) (st' := [.long ((lL v) - (lL z))]) (g1 := (HW sc1 ar 82 oc rl ou tl, q)) rfl ?_
      refine RQ.to (L' := [some (.ref 80), some (.int (iI v)), some (.int (iI 0)), some (.long (lL z)), none]) (st' := [.long (lL (v - z))]) rfl (by simp only [iI_add, iI_sub, iI_mul, iI_neg, lL_add, lL_sub, lL_mul]) ?_
      refine RQ.call rfl rfl (CallR.up (d := 2) (m_within (d := 0) (v := v - z) (by omega)) (by omega)) ?_
      refine RQ.seg 2 (pc' := 5) (L' := [some (.ref 80), some (.int (iI (wi (v - z)))), some (.int (iI 0)), some (.long (lL z)), none]) (st' := []) (g1 := (HW sc1 ar 82 oc rl ou tl, q)) rfl ?_
      have hwi := wi_r (v - z)
      have hj : jn (-2) v z = wi (v - z) := rfl
      rw [show rd tp (m + 1) 7 dp a = rsq (rap (rd tp m 1 dp (sk tp a + 1)) (-2)) (rd tp m 7 dp) by show rSl tp (rd tp m) dp a = _; unfold rSl; rw [if_pos (by omega), if_neg (by omega)]]
      rcases Decidable.em ((rd tp m 1 dp (sk tp a + 1)).1 = -1) with he1 | hE1
      · obtain ⟨k1, k2⟩ := hG_1 he1
        have hg := ((rd_ok (tp := tp) m).at 1 dp (a := sk tp a + 1) (by omega)).2 he1
        replace hg : sk tp a + 1 + 1 ≤ (rd tp m 1 dp (sk tp a + 1)).2.1 ∧ _ := hg
        refine RQ.im (l7 D u dp (rd tp m 1 dp (sk tp a + 1)).2.1 (wi (v - z)) _ _ _ sc1 oc rl ou tl q hdu hdp hD ⟨hv_1, hA_1, hW_1.trans he1, by show (-1 : Int) ≤ -1 ∧ (-1 : Int) ≤ 160; omega, hD_1, fun _ => ⟨k1, k2⟩⟩ (by show 16 * ((tp.length : Int) - (rd tp m 1 dp (sk tp a + 1)).2.1) + 1 ≤ (m : Int); omega) hwi) (fun vv gg hq => ?_)
        obtain ⟨z9, sc9, e9, hz9, e8, hs9, hM9, hev9⟩ := hq
        have eR : rsq (rap (rd tp m 1 dp (sk tp a + 1)) (-2)) (rd tp m 7 dp) = pre ((rd tp m 1 dp (sk tp a + 1)).2.2 ++ [-2]) (rd tp m 7 dp (rd tp m 1 dp (sk tp a + 1)).2.1) := rsq_p (r := rap (rd tp m 1 dp (sk tp a + 1)) (-2)) he1
        rw [eR]
        refine ⟨z9, sc9, e9, hz9, e8, hS1.tr hs9, hM9, fun zz st => ?_⟩
        show ev _ (((rd tp m 1 dp (sk tp a + 1)).2.2 ++ [-2]) ++ (rd tp m 7 dp (rd tp m 1 dp (sk tp a + 1)).2.1).2.2) (v :: st) = z9 :: st
        rw [ev_app, ev_app, show ev (fun k => ar 84 (kc3 k)) (rd tp m 1 dp (sk tp a + 1)).2.2 (v :: st) = z :: v :: st from hev he1 (v :: st), ev_jn (by omega), hj]
        exact hev9 zz st
      · rw [rsq_b (show ¬ (rap (rd tp m 1 dp (sk tp a + 1)) (-2)).1 = -1 from hE1)]
        have hwn : ¬ sc1 8011 = -1 := by omega
        refine RQ.seg 3 (pc' := 10) (L' := [some (.ref 80), some (.int (iI (wi (v - z)))), some (.int (iI 0)), some (.long (lL z)), none]) (st' := [.int (iI (-1)), .int (iI (sc1 8011))]) (g1 := (HW sc1 ar 82 oc rl ou tl, q)) rfl ?_
        refine RQ.if2 (a := (sc1 8011)) (b := (-1)) rfl rfl rfl rfl (by omega) (by omega) (fun _ => ?_) (fun (q : ¬ sc1 8011 ≠ (-1)) => absurd (show sc1 8011 ≠ (-1) from by omega) q)
        refine RQ.seg 1 (pc' := 85) (L' := [some (.ref 80), some (.int (iI (wi (v - z)))), some (.int (iI 0)), some (.long (lL z)), none]) (st' := [.int (iI (wi (v - z)))]) (g1 := (HW sc1 ar 82 oc rl ou tl, q)) rfl ?_
        refine RQ.ret rfl rfl ?_
        exact ⟨_, sc1, rfl, ⟨fun z9 => absurd z9 (by decide), hwi⟩, rfl, hS1, hM1, fun z9 => absurd z9 hE1⟩
    · skip
      refine RQ.seg 8 (pc' := 53) (L' := [some (.ref 80), some (.int (iI v)), some (.int (iI 1)), e3, e4]) (st' := [.int ((iI (sk tp a)) + (iI 1)), .ref 80]) (g1 := (HW (usc sc 8010 (sk tp a)) ar 82 oc rl ou tl, q)) rfl ?_
      refine RQ.to (L' := [some (.ref 80), some (.int (iI v)), some (.int (iI 1)), e3, e4]) (st' := [.int (iI (sk tp a + 1)), .ref 80]) rfl (by simp only [iI_add, iI_sub, iI_mul, iI_neg]) ?_
      refine RQ.seg 2 (pc' := 57) (L' := [some (.ref 80), some (.int (iI v)), some (.int (iI 1)), e3, e4]) (st' := [.ref 80]) (g1 := (HW (usc sc 8010 (sk tp a + 1)) ar 82 oc rl ou tl, q)) rfl ?_
      have hps := lk_in (tp := tp) (a := a) (by omega) (by omega)
      refine RQ.callQ rfl rfl (CQ.up (p1 (D - 1) u dp (sk tp a + 1) (usc sc 8010 (sk tp a + 1)) oc rl ou tl q hdu hdp (by omega) ⟨hv, by show 0 ≤ sk tp a + 1 ∧ sk tp a + 1 ≤ _; omega, hW, hWr, hDp, fun _ => ⟨rfl, g2⟩⟩ (by show 16 * ((tp.length : Int) - (sk tp a + 1)) + 2 ≤ (m : Int); omega)) (by omega)) (fun rv9 g9 hc9 => ?_)
      obtain ⟨z, sc1, rfl, hz, rfl, hs1, hM1, hev⟩ := hc9
      have hz1 := hz.2
      have hS1 : Same muF sc sc1 := Same.tr (by repeat (first | exact Same.rf | refine Same.us rfl ?_)) hs1
      obtain ⟨hv_1, hA_1, hW_1, hWr_1, hD_1, hG_1⟩ := id hM1
      refine RQ.seg 1 (pc' := 61) (L' := [some (.ref 80), some (.int (iI v)), some (.int (iI 1)), e3, e4]) (st' := [.long ((iI z).toInt64)]) (g1 := (HW sc1 ar 82 oc rl ou tl, q)) rfl ?_
      refine RQ.to (L' := [some (.ref 80), some (.int (iI v)), some (.int (iI 1)), e3, e4]) (st' := [.long (lL z)]) rfl (by rw [iI_64 (by omega)]) ?_
      refine RQ.seg 4 (pc' := 67) (L' := [some (.ref 80), some (.int (iI v)), some (.int (iI 1)), some (.long (lL z)), none]) (st' := [.int (iI v)]) (g1 := (HW sc1 ar 82 oc rl ou tl, q)) rfl ?_
      refine RQ.seg 1 (pc' := 68) (L' := [some (.ref 80), some (.int (iI v)), some (.int (iI 1)), some (.long (lL z)), none]) (st' := [.long ((iI v).toInt64)]) (g1 := (HW sc1 ar 82 oc rl ou tl, q)) rfl ?_
      refine RQ.to (L' := [some (.ref 80), some (.int (iI v)), some (.int (iI 1)), some (.long (lL z)), none]) (st' := [.long (lL v)]) rfl (by rw [iI_64 (by omega)]) ?_
      refine RQ.seg 3 (pc' := 77) (L' := [some (.ref 80), some (.int (iI v)), some (.int (iI 1)), some (.long (lL z)), none]) (st' := [.long ((lL v) + (lL z))]) (g1 := (HW sc1 ar 82 oc rl ou tl, q)) rfl ?_
      refine RQ.to (L' := [some (.ref 80), some (.int (iI v)), some (.int (iI 1)), some (.long (lL z)), none]) (st' := [.long (lL (v + z))]) rfl (by simp only [iI_add, iI_sub, iI_mul, iI_neg, lL_add, lL_sub, lL_mul]) ?_
      refine RQ.call rfl rfl (CallR.up (d := 2) (m_within (d := 0) (v := v + z) (by omega)) (by omega)) ?_
      refine RQ.seg 2 (pc' := 5) (L' := [some (.ref 80), some (.int (iI (wi (v + z)))), some (.int (iI 1)), some (.long (lL z)), none]) (st' := []) (g1 := (HW sc1 ar 82 oc rl ou tl, q)) rfl ?_
      have hwi := wi_r (v + z)
      have hj : jn (-1) v z = wi (v + z) := rfl
      rw [show rd tp (m + 1) 7 dp a = rsq (rap (rd tp m 1 dp (sk tp a + 1)) (-1)) (rd tp m 7 dp) by show rSl tp (rd tp m) dp a = _; unfold rSl; rw [if_pos (by omega), if_pos (by omega)]]
      rcases Decidable.em ((rd tp m 1 dp (sk tp a + 1)).1 = -1) with he1 | hE1
      · obtain ⟨k1, k2⟩ := hG_1 he1
        have hg := ((rd_ok (tp := tp) m).at 1 dp (a := sk tp a + 1) (by omega)).2 he1
        replace hg : sk tp a + 1 + 1 ≤ (rd tp m 1 dp (sk tp a + 1)).2.1 ∧ _ := hg
        refine RQ.im (l7 D u dp (rd tp m 1 dp (sk tp a + 1)).2.1 (wi (v + z)) _ _ _ sc1 oc rl ou tl q hdu hdp hD ⟨hv_1, hA_1, hW_1.trans he1, by show (-1 : Int) ≤ -1 ∧ (-1 : Int) ≤ 160; omega, hD_1, fun _ => ⟨k1, k2⟩⟩ (by show 16 * ((tp.length : Int) - (rd tp m 1 dp (sk tp a + 1)).2.1) + 1 ≤ (m : Int); omega) hwi) (fun vv gg hq => ?_)
        obtain ⟨z9, sc9, e9, hz9, e8, hs9, hM9, hev9⟩ := hq
        have eR : rsq (rap (rd tp m 1 dp (sk tp a + 1)) (-1)) (rd tp m 7 dp) = pre ((rd tp m 1 dp (sk tp a + 1)).2.2 ++ [-1]) (rd tp m 7 dp (rd tp m 1 dp (sk tp a + 1)).2.1) := rsq_p (r := rap (rd tp m 1 dp (sk tp a + 1)) (-1)) he1
        rw [eR]
        refine ⟨z9, sc9, e9, hz9, e8, hS1.tr hs9, hM9, fun zz st => ?_⟩
        show ev _ (((rd tp m 1 dp (sk tp a + 1)).2.2 ++ [-1]) ++ (rd tp m 7 dp (rd tp m 1 dp (sk tp a + 1)).2.1).2.2) (v :: st) = z9 :: st
        rw [ev_app, ev_app, show ev (fun k => ar 84 (kc3 k)) (rd tp m 1 dp (sk tp a + 1)).2.2 (v :: st) = z :: v :: st from hev he1 (v :: st), ev_jn (by omega), hj]
        exact hev9 zz st
      · rw [rsq_b (show ¬ (rap (rd tp m 1 dp (sk tp a + 1)) (-1)).1 = -1 from hE1)]
        have hwn : ¬ sc1 8011 = -1 := by omega
        refine RQ.seg 3 (pc' := 10) (L' := [some (.ref 80), some (.int (iI (wi (v + z)))), some (.int (iI 1)), some (.long (lL z)), none]) (st' := [.int (iI (-1)), .int (iI (sc1 8011))]) (g1 := (HW sc1 ar 82 oc rl ou tl, q)) rfl ?_
        refine RQ.if2 (a := (sc1 8011)) (b := (-1)) rfl rfl rfl rfl (by omega) (by omega) (fun _ => ?_) (fun (q : ¬ sc1 8011 ≠ (-1)) => absurd (show sc1 8011 ≠ (-1) from by omega) q)
        refine RQ.seg 1 (pc' := 85) (L' := [some (.ref 80), some (.int (iI (wi (v + z)))), some (.int (iI 1)), some (.long (lL z)), none]) (st' := [.int (iI (wi (v + z)))]) (g1 := (HW sc1 ar 82 oc rl ou tl, q)) rfl ?_
        refine RQ.ret rfl rfl ?_
        exact ⟨_, sc1, rfl, ⟨fun z9 => absurd z9 (by decide), hwi⟩, rfl, hS1, hM1, fun z9 => absurd z9 hE1⟩
  · skip
    refine RQ.seg 1 (pc' := 23) (L' := [some (.ref 80), some (.int (iI v)), e2, e3, e4]) (st' := [.ref 80]) (g1 := (HW (usc sc 8010 (sk tp a)) ar 82 oc rl ou tl, q)) rfl ?_
    have hcall := m_look82 (K := K) (d := 0) (oc := oc) (rl := rl) (ou := ou) (tl := tl) (q := q) (sc := usc sc 8010 (sk tp a)) (ar := ar) (a := sk tp a) ht hv rfl (by omega)
    rw [lk_sk, sk_sk] at hcall
    refine RQ.call rfl rfl (CallR.up hcall (by omega)) ?_
    refine RQ.hp (g1 := (HW (usc sc 8010 (sk tp a)) ar 82 oc rl ou tl, q)) (HW_e (by rw [usc_uu _ 8010 _ _]; try rfl) rfl) ?_
    refine RQ.seg 1 (pc' := 28) (L' := [some (.ref 80), some (.int (iI v)), e2, e3, e4]) (st' := [.int (iI 45), .int (iI (lkm (lk tp a)))]) (g1 := (HW (usc sc 8010 (sk tp a)) ar 82 oc rl ou tl, q)) rfl ?_
    refine RQ.if2 (a := (lkm (lk tp a))) (b := 45) rfl rfl rfl rfl (by omega) (by omega) (fun (h6 : lkm (lk tp a) ≠ 45) => ?_) (fun (h6 : ¬ lkm (lk tp a) ≠ 45) => ?_)
    · skip
      refine RQ.seg 1 (pc' := 85) (L' := [some (.ref 80), some (.int (iI v)), e2, e3, e4]) (st' := [.int (iI v)]) (g1 := (HW (usc sc 8010 (sk tp a)) ar 82 oc rl ou tl, q)) rfl ?_
      refine RQ.ret rfl rfl ?_
      rw [show rd tp (m + 1) 7 dp a = (-1, sk tp a, []) by show rSl tp (rd tp m) dp a = _; unfold rSl; rw [if_neg (by omega)]]
      exact ⟨v, _, rfl, ⟨fun z9 => absurd z9 (by decide), rv⟩, rfl, (by repeat (first | exact Same.rf | refine Same.us rfl ?_)), ⟨hv, by show 0 ≤ sk tp a ∧ sk tp a ≤ _; omega, hW, hWr, hDp, fun _ => ⟨rfl, g2⟩⟩, fun _ st => rfl⟩
    · skip
      refine RQ.seg 1 (pc' := 32) (L' := [some (.ref 80), some (.int (iI v)), e2, e3, e4]) (st' := [.ref 80]) (g1 := (HW (usc sc 8010 (sk tp a)) ar 82 oc rl ou tl, q)) rfl ?_
      have hcall := m_look82 (K := K) (d := 0) (oc := oc) (rl := rl) (ou := ou) (tl := tl) (q := q) (sc := usc sc 8010 (sk tp a)) (ar := ar) (a := sk tp a) ht hv rfl (by omega)
      rw [lk_sk, sk_sk] at hcall
      refine RQ.call rfl rfl (CallR.up hcall (by omega)) ?_
      refine RQ.hp (g1 := (HW (usc sc 8010 (sk tp a)) ar 82 oc rl ou tl, q)) (HW_e (by rw [usc_uu _ 8010 _ _]; try rfl) rfl) ?_
      refine RQ.seg 1 (pc' := 37) (L' := [some (.ref 80), some (.int (iI v)), e2, e3, e4]) (st' := [.int (iI 43), .int (iI (lkm (lk tp a)))]) (g1 := (HW (usc sc 8010 (sk tp a)) ar 82 oc rl ou tl, q)) rfl ?_
      refine RQ.if2 (a := (lkm (lk tp a))) (b := 43) rfl rfl rfl rfl (by omega) (by omega) (fun (h7 : lkm (lk tp a) ≠ 43) => ?_) (fun (h7 : ¬ lkm (lk tp a) ≠ 43) => ?_)
      · skip
        refine RQ.seg 7 (pc' := 53) (L' := [some (.ref 80), some (.int (iI v)), some (.int (iI 0)), e3, e4]) (st' := [.int ((iI (sk tp a)) + (iI 1)), .ref 80]) (g1 := (HW (usc sc 8010 (sk tp a)) ar 82 oc rl ou tl, q)) rfl ?_
        refine RQ.to (L' := [some (.ref 80), some (.int (iI v)), some (.int (iI 0)), e3, e4]) (st' := [.int (iI (sk tp a + 1)), .ref 80]) rfl (by simp only [iI_add, iI_sub, iI_mul, iI_neg]) ?_
        refine RQ.seg 2 (pc' := 57) (L' := [some (.ref 80), some (.int (iI v)), some (.int (iI 0)), e3, e4]) (st' := [.ref 80]) (g1 := (HW (usc sc 8010 (sk tp a + 1)) ar 82 oc rl ou tl, q)) rfl ?_
        have hps := lk_in (tp := tp) (a := a) (by omega) (by omega)
        refine RQ.callQ rfl rfl (CQ.up (p1 (D - 1) u dp (sk tp a + 1) (usc sc 8010 (sk tp a + 1)) oc rl ou tl q hdu hdp (by omega) ⟨hv, by show 0 ≤ sk tp a + 1 ∧ sk tp a + 1 ≤ _; omega, hW, hWr, hDp, fun _ => ⟨rfl, g2⟩⟩ (by show 16 * ((tp.length : Int) - (sk tp a + 1)) + 2 ≤ (m : Int); omega)) (by omega)) (fun rv9 g9 hc9 => ?_)
        obtain ⟨z, sc1, rfl, hz, rfl, hs1, hM1, hev⟩ := hc9
        have hz1 := hz.2
        have hS1 : Same muF sc sc1 := Same.tr (by repeat (first | exact Same.rf | refine Same.us rfl ?_)) hs1
        obtain ⟨hv_1, hA_1, hW_1, hWr_1, hD_1, hG_1⟩ := id hM1
        refine RQ.seg 1 (pc' := 61) (L' := [some (.ref 80), some (.int (iI v)), some (.int (iI 0)), e3, e4]) (st' := [.long ((iI z).toInt64)]) (g1 := (HW sc1 ar 82 oc rl ou tl, q)) rfl ?_
        refine RQ.to (L' := [some (.ref 80), some (.int (iI v)), some (.int (iI 0)), e3, e4]) (st' := [.long (lL z)]) rfl (by rw [iI_64 (by omega)]) ?_
        refine RQ.seg 4 (pc' := 74) (L' := [some (.ref 80), some (.int (iI v)), some (.int (iI 0)), some (.long (lL z)), none]) (st' := [.int (iI v)]) (g1 := (HW sc1 ar 82 oc rl ou tl, q)) rfl ?_
        refine RQ.seg 1 (pc' := 75) (L' := [some (.ref 80), some (.int (iI v)), some (.int (iI 0)), some (.long (lL z)), none]) (st' := [.long ((iI v).toInt64)]) (g1 := (HW sc1 ar 82 oc rl ou tl, q)) rfl ?_
        refine RQ.to (L' := [some (.ref 80), some (.int (iI v)), some (.int (iI 0)), some (.long (lL z)), none]) (st' := [.long (lL v)]) rfl (by rw [iI_64 (by omega)]) ?_
        refine RQ.seg 2 (pc' := 77) (L' := [some (.ref 80), some (.int (iI v)), some (.int (iI 0)), some (.long (lL z)), none]) (st' := [.long ((lL v) - (lL z))]) (g1 := (HW sc1 ar 82 oc rl ou tl, q)) rfl ?_
        refine RQ.to (L' := [some (.ref 80), some (.int (iI v)), some (.int (iI 0)), some (.long (lL z)), none]) (st' := [.long (lL (v - z))]) rfl (by simp only [iI_add, iI_sub, iI_mul, iI_neg, lL_add, lL_sub, lL_mul]) ?_
        refine RQ.call rfl rfl (CallR.up (d := 2) (m_within (d := 0) (v := v - z) (by omega)) (by omega)) ?_
        refine RQ.seg 2 (pc' := 5) (L' := [some (.ref 80), some (.int (iI (wi (v - z)))), some (.int (iI 0)), some (.long (lL z)), none]) (st' := []) (g1 := (HW sc1 ar 82 oc rl ou tl, q)) rfl ?_
        have hwi := wi_r (v - z)
        have hj : jn (-2) v z = wi (v - z) := rfl
        rw [show rd tp (m + 1) 7 dp a = rsq (rap (rd tp m 1 dp (sk tp a + 1)) (-2)) (rd tp m 7 dp) by show rSl tp (rd tp m) dp a = _; unfold rSl; rw [if_pos (by omega), if_neg (by omega)]]
        rcases Decidable.em ((rd tp m 1 dp (sk tp a + 1)).1 = -1) with he1 | hE1
        · obtain ⟨k1, k2⟩ := hG_1 he1
          have hg := ((rd_ok (tp := tp) m).at 1 dp (a := sk tp a + 1) (by omega)).2 he1
          replace hg : sk tp a + 1 + 1 ≤ (rd tp m 1 dp (sk tp a + 1)).2.1 ∧ _ := hg
          refine RQ.im (l7 D u dp (rd tp m 1 dp (sk tp a + 1)).2.1 (wi (v - z)) _ _ _ sc1 oc rl ou tl q hdu hdp hD ⟨hv_1, hA_1, hW_1.trans he1, by show (-1 : Int) ≤ -1 ∧ (-1 : Int) ≤ 160; omega, hD_1, fun _ => ⟨k1, k2⟩⟩ (by show 16 * ((tp.length : Int) - (rd tp m 1 dp (sk tp a + 1)).2.1) + 1 ≤ (m : Int); omega) hwi) (fun vv gg hq => ?_)
          obtain ⟨z9, sc9, e9, hz9, e8, hs9, hM9, hev9⟩ := hq
          have eR : rsq (rap (rd tp m 1 dp (sk tp a + 1)) (-2)) (rd tp m 7 dp) = pre ((rd tp m 1 dp (sk tp a + 1)).2.2 ++ [-2]) (rd tp m 7 dp (rd tp m 1 dp (sk tp a + 1)).2.1) := rsq_p (r := rap (rd tp m 1 dp (sk tp a + 1)) (-2)) he1
          rw [eR]
          refine ⟨z9, sc9, e9, hz9, e8, hS1.tr hs9, hM9, fun zz st => ?_⟩
          show ev _ (((rd tp m 1 dp (sk tp a + 1)).2.2 ++ [-2]) ++ (rd tp m 7 dp (rd tp m 1 dp (sk tp a + 1)).2.1).2.2) (v :: st) = z9 :: st
          rw [ev_app, ev_app, show ev (fun k => ar 84 (kc3 k)) (rd tp m 1 dp (sk tp a + 1)).2.2 (v :: st) = z :: v :: st from hev he1 (v :: st), ev_jn (by omega), hj]
          exact hev9 zz st
        · rw [rsq_b (show ¬ (rap (rd tp m 1 dp (sk tp a + 1)) (-2)).1 = -1 from hE1)]
          have hwn : ¬ sc1 8011 = -1 := by omega
          refine RQ.seg 3 (pc' := 10) (L' := [some (.ref 80), some (.int (iI (wi (v - z)))), some (.int (iI 0)), some (.long (lL z)), none]) (st' := [.int (iI (-1)), .int (iI (sc1 8011))]) (g1 := (HW sc1 ar 82 oc rl ou tl, q)) rfl ?_
          refine RQ.if2 (a := (sc1 8011)) (b := (-1)) rfl rfl rfl rfl (by omega) (by omega) (fun _ => ?_) (fun (q : ¬ sc1 8011 ≠ (-1)) => absurd (show sc1 8011 ≠ (-1) from by omega) q)
          refine RQ.seg 1 (pc' := 85) (L' := [some (.ref 80), some (.int (iI (wi (v - z)))), some (.int (iI 0)), some (.long (lL z)), none]) (st' := [.int (iI (wi (v - z)))]) (g1 := (HW sc1 ar 82 oc rl ou tl, q)) rfl ?_
          refine RQ.ret rfl rfl ?_
          exact ⟨_, sc1, rfl, ⟨fun z9 => absurd z9 (by decide), hwi⟩, rfl, hS1, hM1, fun z9 => absurd z9 hE1⟩
      · skip
        refine RQ.seg 8 (pc' := 53) (L' := [some (.ref 80), some (.int (iI v)), some (.int (iI 1)), e3, e4]) (st' := [.int ((iI (sk tp a)) + (iI 1)), .ref 80]) (g1 := (HW (usc sc 8010 (sk tp a)) ar 82 oc rl ou tl, q)) rfl ?_
        refine RQ.to (L' := [some (.ref 80), some (.int (iI v)), some (.int (iI 1)), e3, e4]) (st' := [.int (iI (sk tp a + 1)), .ref 80]) rfl (by simp only [iI_add, iI_sub, iI_mul, iI_neg]) ?_
        refine RQ.seg 2 (pc' := 57) (L' := [some (.ref 80), some (.int (iI v)), some (.int (iI 1)), e3, e4]) (st' := [.ref 80]) (g1 := (HW (usc sc 8010 (sk tp a + 1)) ar 82 oc rl ou tl, q)) rfl ?_
        have hps := lk_in (tp := tp) (a := a) (by omega) (by omega)
        refine RQ.callQ rfl rfl (CQ.up (p1 (D - 1) u dp (sk tp a + 1) (usc sc 8010 (sk tp a + 1)) oc rl ou tl q hdu hdp (by omega) ⟨hv, by show 0 ≤ sk tp a + 1 ∧ sk tp a + 1 ≤ _; omega, hW, hWr, hDp, fun _ => ⟨rfl, g2⟩⟩ (by show 16 * ((tp.length : Int) - (sk tp a + 1)) + 2 ≤ (m : Int); omega)) (by omega)) (fun rv9 g9 hc9 => ?_)
        obtain ⟨z, sc1, rfl, hz, rfl, hs1, hM1, hev⟩ := hc9
        have hz1 := hz.2
        have hS1 : Same muF sc sc1 := Same.tr (by repeat (first | exact Same.rf | refine Same.us rfl ?_)) hs1
        obtain ⟨hv_1, hA_1, hW_1, hWr_1, hD_1, hG_1⟩ := id hM1
        refine RQ.seg 1 (pc' := 61) (L' := [some (.ref 80), some (.int (iI v)), some (.int (iI 1)), e3, e4]) (st' := [.long ((iI z).toInt64)]) (g1 := (HW sc1 ar 82 oc rl ou tl, q)) rfl ?_
        refine RQ.to (L' := [some (.ref 80), some (.int (iI v)), some (.int (iI 1)), e3, e4]) (st' := [.long (lL z)]) rfl (by rw [iI_64 (by omega)]) ?_
        refine RQ.seg 4 (pc' := 67) (L' := [some (.ref 80), some (.int (iI v)), some (.int (iI 1)), some (.long (lL z)), none]) (st' := [.int (iI v)]) (g1 := (HW sc1 ar 82 oc rl ou tl, q)) rfl ?_
        refine RQ.seg 1 (pc' := 68) (L' := [some (.ref 80), some (.int (iI v)), some (.int (iI 1)), some (.long (lL z)), none]) (st' := [.long ((iI v).toInt64)]) (g1 := (HW sc1 ar 82 oc rl ou tl, q)) rfl ?_
        refine RQ.to (L' := [some (.ref 80), some (.int (iI v)), some (.int (iI 1)), some (.long (lL z)), none]) (st' := [.long (lL v)]) rfl (by rw [iI_64 (by omega)]) ?_
        refine RQ.seg 3 (pc' := 77) (L' := [some (.ref 80), some (.int (iI v)), some (.int (iI 1)), some (.long (lL z)), none]) (st' := [.long ((lL v) + (lL z))]) (g1 := (HW sc1 ar 82 oc rl ou tl, q)) rfl ?_
        refine RQ.to (L' := [some (.ref 80), some (.int (iI v)), some (.int (iI 1)), some (.long (lL z)), none]) (st' := [.long (lL (v + z))]) rfl (by simp only [iI_add, iI_sub, iI_mul, iI_neg, lL_add, lL_sub, lL_mul]) ?_
        refine RQ.call rfl rfl (CallR.up (d := 2) (m_within (d := 0) (v := v + z) (by omega)) (by omega)) ?_
        refine RQ.seg 2 (pc' := 5) (L' := [some (.ref 80), some (.int (iI (wi (v + z)))), some (.int (iI 1)), some (.long (lL z)), none]) (st' := []) (g1 := (HW sc1 ar 82 oc rl ou tl, q)) rfl ?_
        have hwi := wi_r (v + z)
        have hj : jn (-1) v z = wi (v + z) := rfl
        rw [show rd tp (m + 1) 7 dp a = rsq (rap (rd tp m 1 dp (sk tp a + 1)) (-1)) (rd tp m 7 dp) by show rSl tp (rd tp m) dp a = _; unfold rSl; rw [if_pos (by omega), if_pos (by omega)]]
        rcases Decidable.em ((rd tp m 1 dp (sk tp a + 1)).1 = -1) with he1 | hE1
        · obtain ⟨k1, k2⟩ := hG_1 he1
          have hg := ((rd_ok (tp := tp) m).at 1 dp (a := sk tp a + 1) (by omega)).2 he1
          replace hg : sk tp a + 1 + 1 ≤ (rd tp m 1 dp (sk tp a + 1)).2.1 ∧ _ := hg
          refine RQ.im (l7 D u dp (rd tp m 1 dp (sk tp a + 1)).2.1 (wi (v + z)) _ _ _ sc1 oc rl ou tl q hdu hdp hD ⟨hv_1, hA_1, hW_1.trans he1, by show (-1 : Int) ≤ -1 ∧ (-1 : Int) ≤ 160; omega, hD_1, fun _ => ⟨k1, k2⟩⟩ (by show 16 * ((tp.length : Int) - (rd tp m 1 dp (sk tp a + 1)).2.1) + 1 ≤ (m : Int); omega) hwi) (fun vv gg hq => ?_)
          obtain ⟨z9, sc9, e9, hz9, e8, hs9, hM9, hev9⟩ := hq
          have eR : rsq (rap (rd tp m 1 dp (sk tp a + 1)) (-1)) (rd tp m 7 dp) = pre ((rd tp m 1 dp (sk tp a + 1)).2.2 ++ [-1]) (rd tp m 7 dp (rd tp m 1 dp (sk tp a + 1)).2.1) := rsq_p (r := rap (rd tp m 1 dp (sk tp a + 1)) (-1)) he1
          rw [eR]
          refine ⟨z9, sc9, e9, hz9, e8, hS1.tr hs9, hM9, fun zz st => ?_⟩
          show ev _ (((rd tp m 1 dp (sk tp a + 1)).2.2 ++ [-1]) ++ (rd tp m 7 dp (rd tp m 1 dp (sk tp a + 1)).2.1).2.2) (v :: st) = z9 :: st
          rw [ev_app, ev_app, show ev (fun k => ar 84 (kc3 k)) (rd tp m 1 dp (sk tp a + 1)).2.2 (v :: st) = z :: v :: st from hev he1 (v :: st), ev_jn (by omega), hj]
          exact hev9 zz st
        · rw [rsq_b (show ¬ (rap (rd tp m 1 dp (sk tp a + 1)) (-1)).1 = -1 from hE1)]
          have hwn : ¬ sc1 8011 = -1 := by omega
          refine RQ.seg 3 (pc' := 10) (L' := [some (.ref 80), some (.int (iI (wi (v + z)))), some (.int (iI 1)), some (.long (lL z)), none]) (st' := [.int (iI (-1)), .int (iI (sc1 8011))]) (g1 := (HW sc1 ar 82 oc rl ou tl, q)) rfl ?_
          refine RQ.if2 (a := (sc1 8011)) (b := (-1)) rfl rfl rfl rfl (by omega) (by omega) (fun _ => ?_) (fun (q : ¬ sc1 8011 ≠ (-1)) => absurd (show sc1 8011 ≠ (-1) from by omega) q)
          refine RQ.seg 1 (pc' := 85) (L' := [some (.ref 80), some (.int (iI (wi (v + z)))), some (.int (iI 1)), some (.long (lL z)), none]) (st' := [.int (iI (wi (v + z)))]) (g1 := (HW sc1 ar 82 oc rl ou tl, q)) rfl ?_
          refine RQ.ret rfl rfl ?_
          exact ⟨_, sc1, rfl, ⟨fun z9 => absurd z9 (by decide), hwi⟩, rfl, hS1, hM1, fun z9 => absurd z9 hE1⟩
