/-! the reference reads a rule: terms, by wip/tools -/
/-! the reference reads a rule: terms -/
theorem mul_b {v z : Int} (hv : -1000000 ≤ v ∧ v ≤ 1000000) (hz : -1000000 ≤ z ∧ z ≤ 1000000) : -1000000000000 ≤ v * z ∧ v * z ≤ 1000000000000 := by
  have h : (v * z).natAbs ≤ 1000000 * 1000000 := by
    rw [Int.natAbs_mul]
    exact Nat.mul_le_mul (by omega) (by omega)
  omega
def ML6_81 (K : PK) (tp : List Int) (bg : Int) (ar : Nat → Int → Int) (m : Nat) : Prop := ∀ (D u : Nat) (dp a v : Int) (e2 e3 e4 : Option Value) (sc : Nat → Int) (oc : Nat) (rl : Nat → Option Nat) (ou : Nat → Int64) (tl : List PO) (q : Nat × Nat), dp + u = 6 → 0 ≤ dp → 6 * u + 6 ≤ D → MX tp bg 160 (-1, a, []) dp sc (ar 81) → Fu tp m 6 a → (-1000000 ≤ v ∧ v ≤ 1000000) → RQ K D 11 false (some .int) cd164 5 [some (.ref 80), some (.int (iI v)), e2, e3, e4] [] (HW sc ar 81 oc rl ou tl, q) (QM tp bg 160 81 6 (rd tp m 6 dp a) dp [v] sc ar oc rl ou tl q)
theorem ml81_6 {K : PK} {tp : List Int} {bg : Int} {ar : Nat → Int → Int} (ht : TpOK tp) {m : Nat} (p0 : MC K tp bg 160 81 ar m 0 163 5 [] []) (l6 : ML6_81 K tp bg ar m) : ML6_81 K tp bg ar (m + 1) := by
  intro D u dp a v e2 e3 e4 sc oc rl ou tl q hdu hdp hD hM hF rv
  have ht1 := ht.1
  obtain ⟨hv, hA, hW, hWr, hDp, hG⟩ := id hM
  obtain ⟨g1, g2⟩ := hG rfl
  replace g1 : sc 8010 = a := g1
  replace hW : sc 8011 = -1 := hW
  have hFu : 16 * ((tp.length : Int) - a) + 1 ≤ ((m + 1 : Nat) : Int) := hF
  have hsk := sk_r (tp := tp) (p := a) (by omega)
  have hlk : 0 ≤ lk tp a ∧ lk tp a ≤ 255 := tch_r ht (sk tp a)
  have hlm := lkm_r hlk
  refine RQ.seg 3 (pc' := 10) (L' := [some (.ref 80), some (.int (iI v)), e2, e3, e4]) (st' := [.int (iI (-1)), .int (iI (sc 8011))]) (g1 := (HW sc ar 81 oc rl ou tl, q)) rfl ?_
  refine RQ.if2 (a := (sc 8011)) (b := (-1)) rfl rfl rfl rfl (by omega) (by omega) (fun (q : sc 8011 ≠ (-1)) => absurd q (show ¬ sc 8011 ≠ (-1) from by omega)) (fun _ => ?_)
  refine RQ.seg 1 (pc' := 14) (L' := [some (.ref 80), some (.int (iI v)), e2, e3, e4]) (st' := [.ref 80]) (g1 := (HW sc ar 81 oc rl ou tl, q)) rfl ?_
  refine RQ.call rfl rfl (CallR.up (d := 1) (m_look81 (d := 0) (sc := sc) (ar := ar) (a := a) ht hv g1 (by omega)) (by omega)) ?_
  refine RQ.seg 1 (pc' := 19) (L' := [some (.ref 80), some (.int (iI v)), e2, e3, e4]) (st' := [.int (iI 42), .int (iI (lkm (lk tp a)))]) (g1 := (HW (usc sc 8010 (sk tp a)) ar 81 oc rl ou tl, q)) rfl ?_
  refine RQ.if2 (a := (lkm (lk tp a))) (b := 42) rfl rfl rfl rfl (by omega) (by omega) (fun (h2 : lkm (lk tp a) = 42) => ?_) (fun (h2 : ¬ lkm (lk tp a) = 42) => ?_)
  · skip
    refine RQ.seg 1 (pc' := 32) (L' := [some (.ref 80), some (.int (iI v)), e2, e3, e4]) (st' := [.ref 80]) (g1 := (HW (usc sc 8010 (sk tp a)) ar 81 oc rl ou tl, q)) rfl ?_
    have hcall := m_look81 (K := K) (d := 0) (oc := oc) (rl := rl) (ou := ou) (tl := tl) (q := q) (sc := usc sc 8010 (sk tp a)) (ar := ar) (a := sk tp a) ht hv rfl (by omega)
    rw [lk_sk, sk_sk] at hcall
    refine RQ.call rfl rfl (CallR.up hcall (by omega)) ?_
    refine RQ.hp (g1 := (HW (usc sc 8010 (sk tp a)) ar 81 oc rl ou tl, q)) (HW_e (by rw [usc_uu _ 8010 _ _]; try rfl) rfl) ?_
    refine RQ.seg 1 (pc' := 37) (L' := [some (.ref 80), some (.int (iI v)), e2, e3, e4]) (st' := [.int (iI 42), .int (iI (lkm (lk tp a)))]) (g1 := (HW (usc sc 8010 (sk tp a)) ar 81 oc rl ou tl, q)) rfl ?_
    refine RQ.if2 (a := (lkm (lk tp a))) (b := 42) rfl rfl rfl rfl (by omega) (by omega) (fun (h3 : lkm (lk tp a) ≠ 42) => ?_) (fun (h3 : ¬ lkm (lk tp a) ≠ 42) => ?_)
    · skip
      refine RQ.seg 7 (pc' := 53) (L' := [some (.ref 80), some (.int (iI v)), some (.int (iI 0)), e3, e4]) (st' := [.int ((iI (sk tp a)) + (iI 1)), .ref 80]) (g1 := (HW (usc sc 8010 (sk tp a)) ar 81 oc rl ou tl, q)) rfl ?_
      refine RQ.to (L' := [some (.ref 80), some (.int (iI v)), some (.int (iI 0)), e3, e4]) (st' := [.int (iI (sk tp a + 1)), .ref 80]) rfl (by simp only [iI_add, iI_sub, iI_mul, iI_neg]) ?_
      refine RQ.seg 2 (pc' := 57) (L' := [some (.ref 80), some (.int (iI v)), some (.int (iI 0)), e3, e4]) (st' := [.ref 80]) (g1 := (HW (usc sc 8010 (sk tp a + 1)) ar 81 oc rl ou tl, q)) rfl ?_
      have hps := lk_in (tp := tp) (a := a) (by omega) (by omega)
      refine RQ.callQ rfl rfl (CQ.up (p0 (D - 1) u dp (sk tp a + 1) (usc sc 8010 (sk tp a + 1)) oc rl ou tl q hdu hdp (by omega) ⟨hv, by show 0 ≤ sk tp a + 1 ∧ sk tp a + 1 ≤ _; omega, hW, hWr, hDp, fun _ => ⟨rfl, g2⟩⟩ (by show 16 * ((tp.length : Int) - (sk tp a + 1)) + 1 ≤ (m : Int); omega)) (by omega)) (fun rv9 g9 hc9 => ?_)
      obtain ⟨z, sc1, rfl, hz, rfl, hs1, hM1, hev⟩ := hc9
      have hz1 := hz.2
      have hS1 : Same muF sc sc1 := Same.tr (by repeat (first | exact Same.rf | refine Same.us rfl ?_)) hs1
      obtain ⟨hv_1, hA_1, hW_1, hWr_1, hD_1, hG_1⟩ := id hM1
      refine RQ.seg 1 (pc' := 61) (L' := [some (.ref 80), some (.int (iI v)), some (.int (iI 0)), e3, e4]) (st' := [.long ((iI z).toInt64)]) (g1 := (HW sc1 ar 81 oc rl ou tl, q)) rfl ?_
      refine RQ.to (L' := [some (.ref 80), some (.int (iI v)), some (.int (iI 0)), e3, e4]) (st' := [.long (lL z)]) rfl (by rw [iI_64 (by omega)]) ?_
      refine RQ.seg 5 (pc' := 75) (L' := [some (.ref 80), some (.int (iI v)), some (.int (iI 0)), some (.long (lL z)), none]) (st' := [.long (lL 0), .long (lL z)]) (g1 := (HW sc1 ar 81 oc rl ou tl, q)) rfl ?_
      refine RQ.lcmp (a := z) (b := 0) rfl rfl rfl (by omega) (by omega) (fun (h4 : 0 < z) => ?_) (fun (h4 : z = 0) => ?_) (fun (h4 : z < 0) => ?_)
      · skip
        refine RQ.seg 2 (pc' := 84) (L' := [some (.ref 80), some (.int (iI v)), some (.int (iI 0)), some (.long (lL z)), none]) (st' := [.int (iI v)]) (g1 := (HW sc1 ar 81 oc rl ou tl, q)) rfl ?_
        refine RQ.seg 1 (pc' := 85) (L' := [some (.ref 80), some (.int (iI v)), some (.int (iI 0)), some (.long (lL z)), none]) (st' := [.long ((iI v).toInt64)]) (g1 := (HW sc1 ar 81 oc rl ou tl, q)) rfl ?_
        refine RQ.to (L' := [some (.ref 80), some (.int (iI v)), some (.int (iI 0)), some (.long (lL z)), none]) (st' := [.long (lL v)]) rfl (by rw [iI_64 (by omega)]) ?_
        refine RQ.seg 1 (pc' := 86) (L' := [some (.ref 80), some (.int (iI v)), some (.int (iI 0)), some (.long (lL z)), none]) (st' := [.long (lL z), .long (lL v)]) (g1 := (HW sc1 ar 81 oc rl ou tl, q)) rfl ?_
        refine RQ.ldivt (a := v) (b := z) rfl (by omega) (by omega) (by omega) ?_
        have htd := tdiv_r (b := z) rv
        refine RQ.call rfl rfl (CallR.up (d := 2) (m_within (d := 0) (v := v.tdiv z) (by omega)) (by omega)) ?_
        refine RQ.seg 2 (pc' := 5) (L' := [some (.ref 80), some (.int (iI (wi (v.tdiv z)))), some (.int (iI 0)), some (.long (lL z)), none]) (st' := []) (g1 := (HW sc1 ar 81 oc rl ou tl, q)) rfl ?_
        have hwi := wi_r (v.tdiv z)
        have hj : jn (-4) v z = wi (v.tdiv z) := by show wi (if z = 0 then 0 else v.tdiv z) = _; rw [if_neg (by omega)]
        rw [show rd tp (m + 1) 6 dp a = rsq (rap (rd tp m 0 dp (sk tp a + 1)) (-4)) (rd tp m 6 dp) by show rTl tp (rd tp m) dp a = _; unfold rTl; rw [if_pos (by omega), if_neg (by omega)]]
        rcases Decidable.em ((rd tp m 0 dp (sk tp a + 1)).1 = -1) with he1 | hE1
        · obtain ⟨k1, k2⟩ := hG_1 he1
          have hg := ((rd_ok (tp := tp) m).at 0 dp (a := sk tp a + 1) (by omega)).2 he1
          replace hg : sk tp a + 1 + 1 ≤ (rd tp m 0 dp (sk tp a + 1)).2.1 ∧ _ := hg
          refine RQ.im (l6 D u dp (rd tp m 0 dp (sk tp a + 1)).2.1 (wi (v.tdiv z)) _ _ _ sc1 oc rl ou tl q hdu hdp hD ⟨hv_1, hA_1, hW_1.trans he1, by show (-1 : Int) ≤ -1 ∧ (-1 : Int) ≤ 160; omega, hD_1, fun _ => ⟨k1, k2⟩⟩ (by show 16 * ((tp.length : Int) - (rd tp m 0 dp (sk tp a + 1)).2.1) + 1 ≤ (m : Int); omega) hwi) (fun vv gg hq => ?_)
          obtain ⟨z9, sc9, e9, hz9, e8, hs9, hM9, hev9⟩ := hq
          have eR : rsq (rap (rd tp m 0 dp (sk tp a + 1)) (-4)) (rd tp m 6 dp) = pre ((rd tp m 0 dp (sk tp a + 1)).2.2 ++ [-4]) (rd tp m 6 dp (rd tp m 0 dp (sk tp a + 1)).2.1) := rsq_p (r := rap (rd tp m 0 dp (sk tp a + 1)) (-4)) he1
          rw [eR]
          refine ⟨z9, sc9, e9, hz9, e8, hS1.tr hs9, hM9, fun zz st => ?_⟩
          show ev _ (((rd tp m 0 dp (sk tp a + 1)).2.2 ++ [-4]) ++ (rd tp m 6 dp (rd tp m 0 dp (sk tp a + 1)).2.1).2.2) (v :: st) = z9 :: st
          rw [ev_app, ev_app, show ev (fun k => ar 84 (kc3 k)) (rd tp m 0 dp (sk tp a + 1)).2.2 (v :: st) = z :: v :: st from hev he1 (v :: st), ev_jn (by omega), hj]
          exact hev9 zz st
        · rw [rsq_b (show ¬ (rap (rd tp m 0 dp (sk tp a + 1)) (-4)).1 = -1 from hE1)]
          have hwn : ¬ sc1 8011 = -1 := by omega
          refine RQ.seg 3 (pc' := 10) (L' := [some (.ref 80), some (.int (iI (wi (v.tdiv z)))), some (.int (iI 0)), some (.long (lL z)), none]) (st' := [.int (iI (-1)), .int (iI (sc1 8011))]) (g1 := (HW sc1 ar 81 oc rl ou tl, q)) rfl ?_
          refine RQ.if2 (a := (sc1 8011)) (b := (-1)) rfl rfl rfl rfl (by omega) (by omega) (fun _ => ?_) (fun (q : ¬ sc1 8011 ≠ (-1)) => absurd (show sc1 8011 ≠ (-1) from by omega) q)
          refine RQ.seg 1 (pc' := 95) (L' := [some (.ref 80), some (.int (iI (wi (v.tdiv z)))), some (.int (iI 0)), some (.long (lL z)), none]) (st' := [.int (iI (wi (v.tdiv z)))]) (g1 := (HW sc1 ar 81 oc rl ou tl, q)) rfl ?_
          refine RQ.ret rfl rfl ?_
          exact ⟨_, sc1, rfl, ⟨fun z9 => absurd z9 (by decide), hwi⟩, rfl, hS1, hM1, fun z9 => absurd z9 hE1⟩
      · skip
        refine RQ.seg 3 (pc' := 87) (L' := [some (.ref 80), some (.int (iI v)), some (.int (iI 0)), some (.long (lL z)), none]) (st' := [.long (lL 0)]) (g1 := (HW sc1 ar 81 oc rl ou tl, q)) rfl ?_
        refine RQ.call rfl rfl (CallR.up (d := 2) (m_within (d := 0) (v := 0) (by omega)) (by omega)) ?_
        refine RQ.seg 2 (pc' := 5) (L' := [some (.ref 80), some (.int (iI (wi (0)))), some (.int (iI 0)), some (.long (lL z)), none]) (st' := []) (g1 := (HW sc1 ar 81 oc rl ou tl, q)) rfl ?_
        have hwi := wi_r (0)
        have hj : jn (-4) v z = wi (0) := by show wi (if z = 0 then 0 else v.tdiv z) = _; rw [if_pos (by omega)]
        rw [show rd tp (m + 1) 6 dp a = rsq (rap (rd tp m 0 dp (sk tp a + 1)) (-4)) (rd tp m 6 dp) by show rTl tp (rd tp m) dp a = _; unfold rTl; rw [if_pos (by omega), if_neg (by omega)]]
        rcases Decidable.em ((rd tp m 0 dp (sk tp a + 1)).1 = -1) with he1 | hE1
        · obtain ⟨k1, k2⟩ := hG_1 he1
          have hg := ((rd_ok (tp := tp) m).at 0 dp (a := sk tp a + 1) (by omega)).2 he1
          replace hg : sk tp a + 1 + 1 ≤ (rd tp m 0 dp (sk tp a + 1)).2.1 ∧ _ := hg
          refine RQ.im (l6 D u dp (rd tp m 0 dp (sk tp a + 1)).2.1 (wi (0)) _ _ _ sc1 oc rl ou tl q hdu hdp hD ⟨hv_1, hA_1, hW_1.trans he1, by show (-1 : Int) ≤ -1 ∧ (-1 : Int) ≤ 160; omega, hD_1, fun _ => ⟨k1, k2⟩⟩ (by show 16 * ((tp.length : Int) - (rd tp m 0 dp (sk tp a + 1)).2.1) + 1 ≤ (m : Int); omega) hwi) (fun vv gg hq => ?_)
          obtain ⟨z9, sc9, e9, hz9, e8, hs9, hM9, hev9⟩ := hq
          have eR : rsq (rap (rd tp m 0 dp (sk tp a + 1)) (-4)) (rd tp m 6 dp) = pre ((rd tp m 0 dp (sk tp a + 1)).2.2 ++ [-4]) (rd tp m 6 dp (rd tp m 0 dp (sk tp a + 1)).2.1) := rsq_p (r := rap (rd tp m 0 dp (sk tp a + 1)) (-4)) he1
          rw [eR]
          refine ⟨z9, sc9, e9, hz9, e8, hS1.tr hs9, hM9, fun zz st => ?_⟩
          show ev _ (((rd tp m 0 dp (sk tp a + 1)).2.2 ++ [-4]) ++ (rd tp m 6 dp (rd tp m 0 dp (sk tp a + 1)).2.1).2.2) (v :: st) = z9 :: st
          rw [ev_app, ev_app, show ev (fun k => ar 84 (kc3 k)) (rd tp m 0 dp (sk tp a + 1)).2.2 (v :: st) = z :: v :: st from hev he1 (v :: st), ev_jn (by omega), hj]
          exact hev9 zz st
        · rw [rsq_b (show ¬ (rap (rd tp m 0 dp (sk tp a + 1)) (-4)).1 = -1 from hE1)]
          have hwn : ¬ sc1 8011 = -1 := by omega
          refine RQ.seg 3 (pc' := 10) (L' := [some (.ref 80), some (.int (iI (wi (0)))), some (.int (iI 0)), some (.long (lL z)), none]) (st' := [.int (iI (-1)), .int (iI (sc1 8011))]) (g1 := (HW sc1 ar 81 oc rl ou tl, q)) rfl ?_
          refine RQ.if2 (a := (sc1 8011)) (b := (-1)) rfl rfl rfl rfl (by omega) (by omega) (fun _ => ?_) (fun (q : ¬ sc1 8011 ≠ (-1)) => absurd (show sc1 8011 ≠ (-1) from by omega) q)
          refine RQ.seg 1 (pc' := 95) (L' := [some (.ref 80), some (.int (iI (wi (0)))), some (.int (iI 0)), some (.long (lL z)), none]) (st' := [.int (iI (wi (0)))]) (g1 := (HW sc1 ar 81 oc rl ou tl, q)) rfl ?_
          refine RQ.ret rfl rfl ?_
          exact ⟨_, sc1, rfl, ⟨fun z9 => absurd z9 (by decide), hwi⟩, rfl, hS1, hM1, fun z9 => absurd z9 hE1⟩
      · skip
        refine RQ.seg 2 (pc' := 84) (L' := [some (.ref 80), some (.int (iI v)), some (.int (iI 0)), some (.long (lL z)), none]) (st' := [.int (iI v)]) (g1 := (HW sc1 ar 81 oc rl ou tl, q)) rfl ?_
        refine RQ.seg 1 (pc' := 85) (L' := [some (.ref 80), some (.int (iI v)), some (.int (iI 0)), some (.long (lL z)), none]) (st' := [.long ((iI v).toInt64)]) (g1 := (HW sc1 ar 81 oc rl ou tl, q)) rfl ?_
        refine RQ.to (L' := [some (.ref 80), some (.int (iI v)), some (.int (iI 0)), some (.long (lL z)), none]) (st' := [.long (lL v)]) rfl (by rw [iI_64 (by omega)]) ?_
        refine RQ.seg 1 (pc' := 86) (L' := [some (.ref 80), some (.int (iI v)), some (.int (iI 0)), some (.long (lL z)), none]) (st' := [.long (lL z), .long (lL v)]) (g1 := (HW sc1 ar 81 oc rl ou tl, q)) rfl ?_
        refine RQ.ldivt (a := v) (b := z) rfl (by omega) (by omega) (by omega) ?_
        have htd := tdiv_r (b := z) rv
        refine RQ.call rfl rfl (CallR.up (d := 2) (m_within (d := 0) (v := v.tdiv z) (by omega)) (by omega)) ?_
        refine RQ.seg 2 (pc' := 5) (L' := [some (.ref 80), some (.int (iI (wi (v.tdiv z)))), some (.int (iI 0)), some (.long (lL z)), none]) (st' := []) (g1 := (HW sc1 ar 81 oc rl ou tl, q)) rfl ?_
        have hwi := wi_r (v.tdiv z)
        have hj : jn (-4) v z = wi (v.tdiv z) := by show wi (if z = 0 then 0 else v.tdiv z) = _; rw [if_neg (by omega)]
        rw [show rd tp (m + 1) 6 dp a = rsq (rap (rd tp m 0 dp (sk tp a + 1)) (-4)) (rd tp m 6 dp) by show rTl tp (rd tp m) dp a = _; unfold rTl; rw [if_pos (by omega), if_neg (by omega)]]
        rcases Decidable.em ((rd tp m 0 dp (sk tp a + 1)).1 = -1) with he1 | hE1
        · obtain ⟨k1, k2⟩ := hG_1 he1
          have hg := ((rd_ok (tp := tp) m).at 0 dp (a := sk tp a + 1) (by omega)).2 he1
          replace hg : sk tp a + 1 + 1 ≤ (rd tp m 0 dp (sk tp a + 1)).2.1 ∧ _ := hg
          refine RQ.im (l6 D u dp (rd tp m 0 dp (sk tp a + 1)).2.1 (wi (v.tdiv z)) _ _ _ sc1 oc rl ou tl q hdu hdp hD ⟨hv_1, hA_1, hW_1.trans he1, by show (-1 : Int) ≤ -1 ∧ (-1 : Int) ≤ 160; omega, hD_1, fun _ => ⟨k1, k2⟩⟩ (by show 16 * ((tp.length : Int) - (rd tp m 0 dp (sk tp a + 1)).2.1) + 1 ≤ (m : Int); omega) hwi) (fun vv gg hq => ?_)
          obtain ⟨z9, sc9, e9, hz9, e8, hs9, hM9, hev9⟩ := hq
          have eR : rsq (rap (rd tp m 0 dp (sk tp a + 1)) (-4)) (rd tp m 6 dp) = pre ((rd tp m 0 dp (sk tp a + 1)).2.2 ++ [-4]) (rd tp m 6 dp (rd tp m 0 dp (sk tp a + 1)).2.1) := rsq_p (r := rap (rd tp m 0 dp (sk tp a + 1)) (-4)) he1
          rw [eR]
          refine ⟨z9, sc9, e9, hz9, e8, hS1.tr hs9, hM9, fun zz st => ?_⟩
          show ev _ (((rd tp m 0 dp (sk tp a + 1)).2.2 ++ [-4]) ++ (rd tp m 6 dp (rd tp m 0 dp (sk tp a + 1)).2.1).2.2) (v :: st) = z9 :: st
          rw [ev_app, ev_app, show ev (fun k => ar 84 (kc3 k)) (rd tp m 0 dp (sk tp a + 1)).2.2 (v :: st) = z :: v :: st from hev he1 (v :: st), ev_jn (by omega), hj]
          exact hev9 zz st
        · rw [rsq_b (show ¬ (rap (rd tp m 0 dp (sk tp a + 1)) (-4)).1 = -1 from hE1)]
          have hwn : ¬ sc1 8011 = -1 := by omega
          refine RQ.seg 3 (pc' := 10) (L' := [some (.ref 80), some (.int (iI (wi (v.tdiv z)))), some (.int (iI 0)), some (.long (lL z)), none]) (st' := [.int (iI (-1)), .int (iI (sc1 8011))]) (g1 := (HW sc1 ar 81 oc rl ou tl, q)) rfl ?_
          refine RQ.if2 (a := (sc1 8011)) (b := (-1)) rfl rfl rfl rfl (by omega) (by omega) (fun _ => ?_) (fun (q : ¬ sc1 8011 ≠ (-1)) => absurd (show sc1 8011 ≠ (-1) from by omega) q)
          refine RQ.seg 1 (pc' := 95) (L' := [some (.ref 80), some (.int (iI (wi (v.tdiv z)))), some (.int (iI 0)), some (.long (lL z)), none]) (st' := [.int (iI (wi (v.tdiv z)))]) (g1 := (HW sc1 ar 81 oc rl ou tl, q)) rfl ?_
          refine RQ.ret rfl rfl ?_
          exact ⟨_, sc1, rfl, ⟨fun z9 => absurd z9 (by decide), hwi⟩, rfl, hS1, hM1, fun z9 => absurd z9 hE1⟩
    · skip
      refine RQ.seg 8 (pc' := 53) (L' := [some (.ref 80), some (.int (iI v)), some (.int (iI 1)), e3, e4]) (st' := [.int ((iI (sk tp a)) + (iI 1)), .ref 80]) (g1 := (HW (usc sc 8010 (sk tp a)) ar 81 oc rl ou tl, q)) rfl ?_
      refine RQ.to (L' := [some (.ref 80), some (.int (iI v)), some (.int (iI 1)), e3, e4]) (st' := [.int (iI (sk tp a + 1)), .ref 80]) rfl (by simp only [iI_add, iI_sub, iI_mul, iI_neg]) ?_
      refine RQ.seg 2 (pc' := 57) (L' := [some (.ref 80), some (.int (iI v)), some (.int (iI 1)), e3, e4]) (st' := [.ref 80]) (g1 := (HW (usc sc 8010 (sk tp a + 1)) ar 81 oc rl ou tl, q)) rfl ?_
      have hps := lk_in (tp := tp) (a := a) (by omega) (by omega)
      refine RQ.callQ rfl rfl (CQ.up (p0 (D - 1) u dp (sk tp a + 1) (usc sc 8010 (sk tp a + 1)) oc rl ou tl q hdu hdp (by omega) ⟨hv, by show 0 ≤ sk tp a + 1 ∧ sk tp a + 1 ≤ _; omega, hW, hWr, hDp, fun _ => ⟨rfl, g2⟩⟩ (by show 16 * ((tp.length : Int) - (sk tp a + 1)) + 1 ≤ (m : Int); omega)) (by omega)) (fun rv9 g9 hc9 => ?_)
      obtain ⟨z, sc1, rfl, hz, rfl, hs1, hM1, hev⟩ := hc9
      have hz1 := hz.2
      have hS1 : Same muF sc sc1 := Same.tr (by repeat (first | exact Same.rf | refine Same.us rfl ?_)) hs1
      obtain ⟨hv_1, hA_1, hW_1, hWr_1, hD_1, hG_1⟩ := id hM1
      refine RQ.seg 1 (pc' := 61) (L' := [some (.ref 80), some (.int (iI v)), some (.int (iI 1)), e3, e4]) (st' := [.long ((iI z).toInt64)]) (g1 := (HW sc1 ar 81 oc rl ou tl, q)) rfl ?_
      refine RQ.to (L' := [some (.ref 80), some (.int (iI v)), some (.int (iI 1)), e3, e4]) (st' := [.long (lL z)]) rfl (by rw [iI_64 (by omega)]) ?_
      refine RQ.seg 4 (pc' := 67) (L' := [some (.ref 80), some (.int (iI v)), some (.int (iI 1)), some (.long (lL z)), none]) (st' := [.int (iI v)]) (g1 := (HW sc1 ar 81 oc rl ou tl, q)) rfl ?_
      refine RQ.seg 1 (pc' := 68) (L' := [some (.ref 80), some (.int (iI v)), some (.int (iI 1)), some (.long (lL z)), none]) (st' := [.long ((iI v).toInt64)]) (g1 := (HW sc1 ar 81 oc rl ou tl, q)) rfl ?_
      refine RQ.to (L' := [some (.ref 80), some (.int (iI v)), some (.int (iI 1)), some (.long (lL z)), none]) (st' := [.long (lL v)]) rfl (by rw [iI_64 (by omega)]) ?_
      refine RQ.seg 3 (pc' := 87) (L' := [some (.ref 80), some (.int (iI v)), some (.int (iI 1)), some (.long (lL z)), none]) (st' := [.long ((lL v) * (lL z))]) (g1 := (HW sc1 ar 81 oc rl ou tl, q)) rfl ?_
      refine RQ.to (L' := [some (.ref 80), some (.int (iI v)), some (.int (iI 1)), some (.long (lL z)), none]) (st' := [.long (lL (v * z))]) rfl (by simp only [iI_add, iI_sub, iI_mul, iI_neg, lL_add, lL_sub, lL_mul]) ?_
      have hmb := mul_b rv hz1
      refine RQ.call rfl rfl (CallR.up (d := 2) (m_within (d := 0) (v := v * z) (by omega)) (by omega)) ?_
      refine RQ.seg 2 (pc' := 5) (L' := [some (.ref 80), some (.int (iI (wi (v * z)))), some (.int (iI 1)), some (.long (lL z)), none]) (st' := []) (g1 := (HW sc1 ar 81 oc rl ou tl, q)) rfl ?_
      have hwi := wi_r (v * z)
      have hj : jn (-3) v z = wi (v * z) := rfl
      rw [show rd tp (m + 1) 6 dp a = rsq (rap (rd tp m 0 dp (sk tp a + 1)) (-3)) (rd tp m 6 dp) by show rTl tp (rd tp m) dp a = _; unfold rTl; rw [if_pos (by omega), if_pos (by omega)]]
      rcases Decidable.em ((rd tp m 0 dp (sk tp a + 1)).1 = -1) with he1 | hE1
      · obtain ⟨k1, k2⟩ := hG_1 he1
        have hg := ((rd_ok (tp := tp) m).at 0 dp (a := sk tp a + 1) (by omega)).2 he1
        replace hg : sk tp a + 1 + 1 ≤ (rd tp m 0 dp (sk tp a + 1)).2.1 ∧ _ := hg
        refine RQ.im (l6 D u dp (rd tp m 0 dp (sk tp a + 1)).2.1 (wi (v * z)) _ _ _ sc1 oc rl ou tl q hdu hdp hD ⟨hv_1, hA_1, hW_1.trans he1, by show (-1 : Int) ≤ -1 ∧ (-1 : Int) ≤ 160; omega, hD_1, fun _ => ⟨k1, k2⟩⟩ (by show 16 * ((tp.length : Int) - (rd tp m 0 dp (sk tp a + 1)).2.1) + 1 ≤ (m : Int); omega) hwi) (fun vv gg hq => ?_)
        obtain ⟨z9, sc9, e9, hz9, e8, hs9, hM9, hev9⟩ := hq
        have eR : rsq (rap (rd tp m 0 dp (sk tp a + 1)) (-3)) (rd tp m 6 dp) = pre ((rd tp m 0 dp (sk tp a + 1)).2.2 ++ [-3]) (rd tp m 6 dp (rd tp m 0 dp (sk tp a + 1)).2.1) := rsq_p (r := rap (rd tp m 0 dp (sk tp a + 1)) (-3)) he1
        rw [eR]
        refine ⟨z9, sc9, e9, hz9, e8, hS1.tr hs9, hM9, fun zz st => ?_⟩
        show ev _ (((rd tp m 0 dp (sk tp a + 1)).2.2 ++ [-3]) ++ (rd tp m 6 dp (rd tp m 0 dp (sk tp a + 1)).2.1).2.2) (v :: st) = z9 :: st
        rw [ev_app, ev_app, show ev (fun k => ar 84 (kc3 k)) (rd tp m 0 dp (sk tp a + 1)).2.2 (v :: st) = z :: v :: st from hev he1 (v :: st), ev_jn (by omega), hj]
        exact hev9 zz st
      · rw [rsq_b (show ¬ (rap (rd tp m 0 dp (sk tp a + 1)) (-3)).1 = -1 from hE1)]
        have hwn : ¬ sc1 8011 = -1 := by omega
        refine RQ.seg 3 (pc' := 10) (L' := [some (.ref 80), some (.int (iI (wi (v * z)))), some (.int (iI 1)), some (.long (lL z)), none]) (st' := [.int (iI (-1)), .int (iI (sc1 8011))]) (g1 := (HW sc1 ar 81 oc rl ou tl, q)) rfl ?_
        refine RQ.if2 (a := (sc1 8011)) (b := (-1)) rfl rfl rfl rfl (by omega) (by omega) (fun _ => ?_) (fun (q : ¬ sc1 8011 ≠ (-1)) => absurd (show sc1 8011 ≠ (-1) from by omega) q)
        refine RQ.seg 1 (pc' := 95) (L' := [some (.ref 80), some (.int (iI (wi (v * z)))), some (.int (iI 1)), some (.long (lL z)), none]) (st' := [.int (iI (wi (v * z)))]) (g1 := (HW sc1 ar 81 oc rl ou tl, q)) rfl ?_
        refine RQ.ret rfl rfl ?_
        exact ⟨_, sc1, rfl, ⟨fun z9 => absurd z9 (by decide), hwi⟩, rfl, hS1, hM1, fun z9 => absurd z9 hE1⟩
  · skip
    refine RQ.seg 1 (pc' := 23) (L' := [some (.ref 80), some (.int (iI v)), e2, e3, e4]) (st' := [.ref 80]) (g1 := (HW (usc sc 8010 (sk tp a)) ar 81 oc rl ou tl, q)) rfl ?_
    have hcall := m_look81 (K := K) (d := 0) (oc := oc) (rl := rl) (ou := ou) (tl := tl) (q := q) (sc := usc sc 8010 (sk tp a)) (ar := ar) (a := sk tp a) ht hv rfl (by omega)
    rw [lk_sk, sk_sk] at hcall
    refine RQ.call rfl rfl (CallR.up hcall (by omega)) ?_
    refine RQ.hp (g1 := (HW (usc sc 8010 (sk tp a)) ar 81 oc rl ou tl, q)) (HW_e (by rw [usc_uu _ 8010 _ _]; try rfl) rfl) ?_
    refine RQ.seg 1 (pc' := 28) (L' := [some (.ref 80), some (.int (iI v)), e2, e3, e4]) (st' := [.int (iI 47), .int (iI (lkm (lk tp a)))]) (g1 := (HW (usc sc 8010 (sk tp a)) ar 81 oc rl ou tl, q)) rfl ?_
    refine RQ.if2 (a := (lkm (lk tp a))) (b := 47) rfl rfl rfl rfl (by omega) (by omega) (fun (h9 : lkm (lk tp a) ≠ 47) => ?_) (fun (h9 : ¬ lkm (lk tp a) ≠ 47) => ?_)
    · skip
      refine RQ.seg 1 (pc' := 95) (L' := [some (.ref 80), some (.int (iI v)), e2, e3, e4]) (st' := [.int (iI v)]) (g1 := (HW (usc sc 8010 (sk tp a)) ar 81 oc rl ou tl, q)) rfl ?_
      refine RQ.ret rfl rfl ?_
      rw [show rd tp (m + 1) 6 dp a = (-1, sk tp a, []) by show rTl tp (rd tp m) dp a = _; unfold rTl; rw [if_neg (by omega)]]
      exact ⟨v, _, rfl, ⟨fun z9 => absurd z9 (by decide), rv⟩, rfl, (by repeat (first | exact Same.rf | refine Same.us rfl ?_)), ⟨hv, by show 0 ≤ sk tp a ∧ sk tp a ≤ _; omega, hW, hWr, hDp, fun _ => ⟨rfl, g2⟩⟩, fun _ st => rfl⟩
    · skip
      refine RQ.seg 1 (pc' := 32) (L' := [some (.ref 80), some (.int (iI v)), e2, e3, e4]) (st' := [.ref 80]) (g1 := (HW (usc sc 8010 (sk tp a)) ar 81 oc rl ou tl, q)) rfl ?_
      have hcall := m_look81 (K := K) (d := 0) (oc := oc) (rl := rl) (ou := ou) (tl := tl) (q := q) (sc := usc sc 8010 (sk tp a)) (ar := ar) (a := sk tp a) ht hv rfl (by omega)
      rw [lk_sk, sk_sk] at hcall
      refine RQ.call rfl rfl (CallR.up hcall (by omega)) ?_
      refine RQ.hp (g1 := (HW (usc sc 8010 (sk tp a)) ar 81 oc rl ou tl, q)) (HW_e (by rw [usc_uu _ 8010 _ _]; try rfl) rfl) ?_
      refine RQ.seg 1 (pc' := 37) (L' := [some (.ref 80), some (.int (iI v)), e2, e3, e4]) (st' := [.int (iI 42), .int (iI (lkm (lk tp a)))]) (g1 := (HW (usc sc 8010 (sk tp a)) ar 81 oc rl ou tl, q)) rfl ?_
      refine RQ.if2 (a := (lkm (lk tp a))) (b := 42) rfl rfl rfl rfl (by omega) (by omega) (fun (h10 : lkm (lk tp a) ≠ 42) => ?_) (fun (h10 : ¬ lkm (lk tp a) ≠ 42) => ?_)
      · skip
        refine RQ.seg 7 (pc' := 53) (L' := [some (.ref 80), some (.int (iI v)), some (.int (iI 0)), e3, e4]) (st' := [.int ((iI (sk tp a)) + (iI 1)), .ref 80]) (g1 := (HW (usc sc 8010 (sk tp a)) ar 81 oc rl ou tl, q)) rfl ?_
        refine RQ.to (L' := [some (.ref 80), some (.int (iI v)), some (.int (iI 0)), e3, e4]) (st' := [.int (iI (sk tp a + 1)), .ref 80]) rfl (by simp only [iI_add, iI_sub, iI_mul, iI_neg]) ?_
        refine RQ.seg 2 (pc' := 57) (L' := [some (.ref 80), some (.int (iI v)), some (.int (iI 0)), e3, e4]) (st' := [.ref 80]) (g1 := (HW (usc sc 8010 (sk tp a + 1)) ar 81 oc rl ou tl, q)) rfl ?_
        have hps := lk_in (tp := tp) (a := a) (by omega) (by omega)
        refine RQ.callQ rfl rfl (CQ.up (p0 (D - 1) u dp (sk tp a + 1) (usc sc 8010 (sk tp a + 1)) oc rl ou tl q hdu hdp (by omega) ⟨hv, by show 0 ≤ sk tp a + 1 ∧ sk tp a + 1 ≤ _; omega, hW, hWr, hDp, fun _ => ⟨rfl, g2⟩⟩ (by show 16 * ((tp.length : Int) - (sk tp a + 1)) + 1 ≤ (m : Int); omega)) (by omega)) (fun rv9 g9 hc9 => ?_)
        obtain ⟨z, sc1, rfl, hz, rfl, hs1, hM1, hev⟩ := hc9
        have hz1 := hz.2
        have hS1 : Same muF sc sc1 := Same.tr (by repeat (first | exact Same.rf | refine Same.us rfl ?_)) hs1
        obtain ⟨hv_1, hA_1, hW_1, hWr_1, hD_1, hG_1⟩ := id hM1
        refine RQ.seg 1 (pc' := 61) (L' := [some (.ref 80), some (.int (iI v)), some (.int (iI 0)), e3, e4]) (st' := [.long ((iI z).toInt64)]) (g1 := (HW sc1 ar 81 oc rl ou tl, q)) rfl ?_
        refine RQ.to (L' := [some (.ref 80), some (.int (iI v)), some (.int (iI 0)), e3, e4]) (st' := [.long (lL z)]) rfl (by rw [iI_64 (by omega)]) ?_
        refine RQ.seg 5 (pc' := 75) (L' := [some (.ref 80), some (.int (iI v)), some (.int (iI 0)), some (.long (lL z)), none]) (st' := [.long (lL 0), .long (lL z)]) (g1 := (HW sc1 ar 81 oc rl ou tl, q)) rfl ?_
        refine RQ.lcmp (a := z) (b := 0) rfl rfl rfl (by omega) (by omega) (fun (h11 : 0 < z) => ?_) (fun (h11 : z = 0) => ?_) (fun (h11 : z < 0) => ?_)
        · skip
          refine RQ.seg 2 (pc' := 84) (L' := [some (.ref 80), some (.int (iI v)), some (.int (iI 0)), some (.long (lL z)), none]) (st' := [.int (iI v)]) (g1 := (HW sc1 ar 81 oc rl ou tl, q)) rfl ?_
          refine RQ.seg 1 (pc' := 85) (L' := [some (.ref 80), some (.int (iI v)), some (.int (iI 0)), some (.long (lL z)), none]) (st' := [.long ((iI v).toInt64)]) (g1 := (HW sc1 ar 81 oc rl ou tl, q)) rfl ?_
          refine RQ.to (L' := [some (.ref 80), some (.int (iI v)), some (.int (iI 0)), some (.long (lL z)), none]) (st' := [.long (lL v)]) rfl (by rw [iI_64 (by omega)]) ?_
          refine RQ.seg 1 (pc' := 86) (L' := [some (.ref 80), some (.int (iI v)), some (.int (iI 0)), some (.long (lL z)), none]) (st' := [.long (lL z), .long (lL v)]) (g1 := (HW sc1 ar 81 oc rl ou tl, q)) rfl ?_
          refine RQ.ldivt (a := v) (b := z) rfl (by omega) (by omega) (by omega) ?_
          have htd := tdiv_r (b := z) rv
          refine RQ.call rfl rfl (CallR.up (d := 2) (m_within (d := 0) (v := v.tdiv z) (by omega)) (by omega)) ?_
          refine RQ.seg 2 (pc' := 5) (L' := [some (.ref 80), some (.int (iI (wi (v.tdiv z)))), some (.int (iI 0)), some (.long (lL z)), none]) (st' := []) (g1 := (HW sc1 ar 81 oc rl ou tl, q)) rfl ?_
          have hwi := wi_r (v.tdiv z)
          have hj : jn (-4) v z = wi (v.tdiv z) := by show wi (if z = 0 then 0 else v.tdiv z) = _; rw [if_neg (by omega)]
          rw [show rd tp (m + 1) 6 dp a = rsq (rap (rd tp m 0 dp (sk tp a + 1)) (-4)) (rd tp m 6 dp) by show rTl tp (rd tp m) dp a = _; unfold rTl; rw [if_pos (by omega), if_neg (by omega)]]
          rcases Decidable.em ((rd tp m 0 dp (sk tp a + 1)).1 = -1) with he1 | hE1
          · obtain ⟨k1, k2⟩ := hG_1 he1
            have hg := ((rd_ok (tp := tp) m).at 0 dp (a := sk tp a + 1) (by omega)).2 he1
            replace hg : sk tp a + 1 + 1 ≤ (rd tp m 0 dp (sk tp a + 1)).2.1 ∧ _ := hg
            refine RQ.im (l6 D u dp (rd tp m 0 dp (sk tp a + 1)).2.1 (wi (v.tdiv z)) _ _ _ sc1 oc rl ou tl q hdu hdp hD ⟨hv_1, hA_1, hW_1.trans he1, by show (-1 : Int) ≤ -1 ∧ (-1 : Int) ≤ 160; omega, hD_1, fun _ => ⟨k1, k2⟩⟩ (by show 16 * ((tp.length : Int) - (rd tp m 0 dp (sk tp a + 1)).2.1) + 1 ≤ (m : Int); omega) hwi) (fun vv gg hq => ?_)
            obtain ⟨z9, sc9, e9, hz9, e8, hs9, hM9, hev9⟩ := hq
            have eR : rsq (rap (rd tp m 0 dp (sk tp a + 1)) (-4)) (rd tp m 6 dp) = pre ((rd tp m 0 dp (sk tp a + 1)).2.2 ++ [-4]) (rd tp m 6 dp (rd tp m 0 dp (sk tp a + 1)).2.1) := rsq_p (r := rap (rd tp m 0 dp (sk tp a + 1)) (-4)) he1
            rw [eR]
            refine ⟨z9, sc9, e9, hz9, e8, hS1.tr hs9, hM9, fun zz st => ?_⟩
            show ev _ (((rd tp m 0 dp (sk tp a + 1)).2.2 ++ [-4]) ++ (rd tp m 6 dp (rd tp m 0 dp (sk tp a + 1)).2.1).2.2) (v :: st) = z9 :: st
            rw [ev_app, ev_app, show ev (fun k => ar 84 (kc3 k)) (rd tp m 0 dp (sk tp a + 1)).2.2 (v :: st) = z :: v :: st from hev he1 (v :: st), ev_jn (by omega), hj]
            exact hev9 zz st
          · rw [rsq_b (show ¬ (rap (rd tp m 0 dp (sk tp a + 1)) (-4)).1 = -1 from hE1)]
            have hwn : ¬ sc1 8011 = -1 := by omega
            refine RQ.seg 3 (pc' := 10) (L' := [some (.ref 80), some (.int (iI (wi (v.tdiv z)))), some (.int (iI 0)), some (.long (lL z)), none]) (st' := [.int (iI (-1)), .int (iI (sc1 8011))]) (g1 := (HW sc1 ar 81 oc rl ou tl, q)) rfl ?_
            refine RQ.if2 (a := (sc1 8011)) (b := (-1)) rfl rfl rfl rfl (by omega) (by omega) (fun _ => ?_) (fun (q : ¬ sc1 8011 ≠ (-1)) => absurd (show sc1 8011 ≠ (-1) from by omega) q)
            refine RQ.seg 1 (pc' := 95) (L' := [some (.ref 80), some (.int (iI (wi (v.tdiv z)))), some (.int (iI 0)), some (.long (lL z)), none]) (st' := [.int (iI (wi (v.tdiv z)))]) (g1 := (HW sc1 ar 81 oc rl ou tl, q)) rfl ?_
            refine RQ.ret rfl rfl ?_
            exact ⟨_, sc1, rfl, ⟨fun z9 => absurd z9 (by decide), hwi⟩, rfl, hS1, hM1, fun z9 => absurd z9 hE1⟩
        · skip
          refine RQ.seg 3 (pc' := 87) (L' := [some (.ref 80), some (.int (iI v)), some (.int (iI 0)), some (.long (lL z)), none]) (st' := [.long (lL 0)]) (g1 := (HW sc1 ar 81 oc rl ou tl, q)) rfl ?_
          refine RQ.call rfl rfl (CallR.up (d := 2) (m_within (d := 0) (v := 0) (by omega)) (by omega)) ?_
          refine RQ.seg 2 (pc' := 5) (L' := [some (.ref 80), some (.int (iI (wi (0)))), some (.int (iI 0)), some (.long (lL z)), none]) (st' := []) (g1 := (HW sc1 ar 81 oc rl ou tl, q)) rfl ?_
          have hwi := wi_r (0)
          have hj : jn (-4) v z = wi (0) := by show wi (if z = 0 then 0 else v.tdiv z) = _; rw [if_pos (by omega)]
          rw [show rd tp (m + 1) 6 dp a = rsq (rap (rd tp m 0 dp (sk tp a + 1)) (-4)) (rd tp m 6 dp) by show rTl tp (rd tp m) dp a = _; unfold rTl; rw [if_pos (by omega), if_neg (by omega)]]
          rcases Decidable.em ((rd tp m 0 dp (sk tp a + 1)).1 = -1) with he1 | hE1
          · obtain ⟨k1, k2⟩ := hG_1 he1
            have hg := ((rd_ok (tp := tp) m).at 0 dp (a := sk tp a + 1) (by omega)).2 he1
            replace hg : sk tp a + 1 + 1 ≤ (rd tp m 0 dp (sk tp a + 1)).2.1 ∧ _ := hg
            refine RQ.im (l6 D u dp (rd tp m 0 dp (sk tp a + 1)).2.1 (wi (0)) _ _ _ sc1 oc rl ou tl q hdu hdp hD ⟨hv_1, hA_1, hW_1.trans he1, by show (-1 : Int) ≤ -1 ∧ (-1 : Int) ≤ 160; omega, hD_1, fun _ => ⟨k1, k2⟩⟩ (by show 16 * ((tp.length : Int) - (rd tp m 0 dp (sk tp a + 1)).2.1) + 1 ≤ (m : Int); omega) hwi) (fun vv gg hq => ?_)
            obtain ⟨z9, sc9, e9, hz9, e8, hs9, hM9, hev9⟩ := hq
            have eR : rsq (rap (rd tp m 0 dp (sk tp a + 1)) (-4)) (rd tp m 6 dp) = pre ((rd tp m 0 dp (sk tp a + 1)).2.2 ++ [-4]) (rd tp m 6 dp (rd tp m 0 dp (sk tp a + 1)).2.1) := rsq_p (r := rap (rd tp m 0 dp (sk tp a + 1)) (-4)) he1
            rw [eR]
            refine ⟨z9, sc9, e9, hz9, e8, hS1.tr hs9, hM9, fun zz st => ?_⟩
            show ev _ (((rd tp m 0 dp (sk tp a + 1)).2.2 ++ [-4]) ++ (rd tp m 6 dp (rd tp m 0 dp (sk tp a + 1)).2.1).2.2) (v :: st) = z9 :: st
            rw [ev_app, ev_app, show ev (fun k => ar 84 (kc3 k)) (rd tp m 0 dp (sk tp a + 1)).2.2 (v :: st) = z :: v :: st from hev he1 (v :: st), ev_jn (by omega), hj]
            exact hev9 zz st
          · rw [rsq_b (show ¬ (rap (rd tp m 0 dp (sk tp a + 1)) (-4)).1 = -1 from hE1)]
            have hwn : ¬ sc1 8011 = -1 := by omega
            refine RQ.seg 3 (pc' := 10) (L' := [some (.ref 80), some (.int (iI (wi (0)))), some (.int (iI 0)), some (.long (lL z)), none]) (st' := [.int (iI (-1)), .int (iI (sc1 8011))]) (g1 := (HW sc1 ar 81 oc rl ou tl, q)) rfl ?_
            refine RQ.if2 (a := (sc1 8011)) (b := (-1)) rfl rfl rfl rfl (by omega) (by omega) (fun _ => ?_) (fun (q : ¬ sc1 8011 ≠ (-1)) => absurd (show sc1 8011 ≠ (-1) from by omega) q)
            refine RQ.seg 1 (pc' := 95) (L' := [some (.ref 80), some (.int (iI (wi (0)))), some (.int (iI 0)), some (.long (lL z)), none]) (st' := [.int (iI (wi (0)))]) (g1 := (HW sc1 ar 81 oc rl ou tl, q)) rfl ?_
            refine RQ.ret rfl rfl ?_
            exact ⟨_, sc1, rfl, ⟨fun z9 => absurd z9 (by decide), hwi⟩, rfl, hS1, hM1, fun z9 => absurd z9 hE1⟩
        · skip
          refine RQ.seg 2 (pc' := 84) (L' := [some (.ref 80), some (.int (iI v)), some (.int (iI 0)), some (.long (lL z)), none]) (st' := [.int (iI v)]) (g1 := (HW sc1 ar 81 oc rl ou tl, q)) rfl ?_
          refine RQ.seg 1 (pc' := 85) (L' := [some (.ref 80), some (.int (iI v)), some (.int (iI 0)), some (.long (lL z)), none]) (st' := [.long ((iI v).toInt64)]) (g1 := (HW sc1 ar 81 oc rl ou tl, q)) rfl ?_
          refine RQ.to (L' := [some (.ref 80), some (.int (iI v)), some (.int (iI 0)), some (.long (lL z)), none]) (st' := [.long (lL v)]) rfl (by rw [iI_64 (by omega)]) ?_
          refine RQ.seg 1 (pc' := 86) (L' := [some (.ref 80), some (.int (iI v)), some (.int (iI 0)), some (.long (lL z)), none]) (st' := [.long (lL z), .long (lL v)]) (g1 := (HW sc1 ar 81 oc rl ou tl, q)) rfl ?_
          refine RQ.ldivt (a := v) (b := z) rfl (by omega) (by omega) (by omega) ?_
          have htd := tdiv_r (b := z) rv
          refine RQ.call rfl rfl (CallR.up (d := 2) (m_within (d := 0) (v := v.tdiv z) (by omega)) (by omega)) ?_
          refine RQ.seg 2 (pc' := 5) (L' := [some (.ref 80), some (.int (iI (wi (v.tdiv z)))), some (.int (iI 0)), some (.long (lL z)), none]) (st' := []) (g1 := (HW sc1 ar 81 oc rl ou tl, q)) rfl ?_
          have hwi := wi_r (v.tdiv z)
          have hj : jn (-4) v z = wi (v.tdiv z) := by show wi (if z = 0 then 0 else v.tdiv z) = _; rw [if_neg (by omega)]
          rw [show rd tp (m + 1) 6 dp a = rsq (rap (rd tp m 0 dp (sk tp a + 1)) (-4)) (rd tp m 6 dp) by show rTl tp (rd tp m) dp a = _; unfold rTl; rw [if_pos (by omega), if_neg (by omega)]]
          rcases Decidable.em ((rd tp m 0 dp (sk tp a + 1)).1 = -1) with he1 | hE1
          · obtain ⟨k1, k2⟩ := hG_1 he1
            have hg := ((rd_ok (tp := tp) m).at 0 dp (a := sk tp a + 1) (by omega)).2 he1
            replace hg : sk tp a + 1 + 1 ≤ (rd tp m 0 dp (sk tp a + 1)).2.1 ∧ _ := hg
            refine RQ.im (l6 D u dp (rd tp m 0 dp (sk tp a + 1)).2.1 (wi (v.tdiv z)) _ _ _ sc1 oc rl ou tl q hdu hdp hD ⟨hv_1, hA_1, hW_1.trans he1, by show (-1 : Int) ≤ -1 ∧ (-1 : Int) ≤ 160; omega, hD_1, fun _ => ⟨k1, k2⟩⟩ (by show 16 * ((tp.length : Int) - (rd tp m 0 dp (sk tp a + 1)).2.1) + 1 ≤ (m : Int); omega) hwi) (fun vv gg hq => ?_)
            obtain ⟨z9, sc9, e9, hz9, e8, hs9, hM9, hev9⟩ := hq
            have eR : rsq (rap (rd tp m 0 dp (sk tp a + 1)) (-4)) (rd tp m 6 dp) = pre ((rd tp m 0 dp (sk tp a + 1)).2.2 ++ [-4]) (rd tp m 6 dp (rd tp m 0 dp (sk tp a + 1)).2.1) := rsq_p (r := rap (rd tp m 0 dp (sk tp a + 1)) (-4)) he1
            rw [eR]
            refine ⟨z9, sc9, e9, hz9, e8, hS1.tr hs9, hM9, fun zz st => ?_⟩
            show ev _ (((rd tp m 0 dp (sk tp a + 1)).2.2 ++ [-4]) ++ (rd tp m 6 dp (rd tp m 0 dp (sk tp a + 1)).2.1).2.2) (v :: st) = z9 :: st
            rw [ev_app, ev_app, show ev (fun k => ar 84 (kc3 k)) (rd tp m 0 dp (sk tp a + 1)).2.2 (v :: st) = z :: v :: st from hev he1 (v :: st), ev_jn (by omega), hj]
            exact hev9 zz st
          · rw [rsq_b (show ¬ (rap (rd tp m 0 dp (sk tp a + 1)) (-4)).1 = -1 from hE1)]
            have hwn : ¬ sc1 8011 = -1 := by omega
            refine RQ.seg 3 (pc' := 10) (L' := [some (.ref 80), some (.int (iI (wi (v.tdiv z)))), some (.int (iI 0)), some (.long (lL z)), none]) (st' := [.int (iI (-1)), .int (iI (sc1 8011))]) (g1 := (HW sc1 ar 81 oc rl ou tl, q)) rfl ?_
            refine RQ.if2 (a := (sc1 8011)) (b := (-1)) rfl rfl rfl rfl (by omega) (by omega) (fun _ => ?_) (fun (q : ¬ sc1 8011 ≠ (-1)) => absurd (show sc1 8011 ≠ (-1) from by omega) q)
            refine RQ.seg 1 (pc' := 95) (L' := [some (.ref 80), some (.int (iI (wi (v.tdiv z)))), some (.int (iI 0)), some (.long (lL z)), none]) (st' := [.int (iI (wi (v.tdiv z)))]) (g1 := (HW sc1 ar 81 oc rl ou tl, q)) rfl ?_
            refine RQ.ret rfl rfl ?_
            exact ⟨_, sc1, rfl, ⟨fun z9 => absurd z9 (by decide), hwi⟩, rfl, hS1, hM1, fun z9 => absurd z9 hE1⟩
      · skip
        refine RQ.seg 8 (pc' := 53) (L' := [some (.ref 80), some (.int (iI v)), some (.int (iI 1)), e3, e4]) (st' := [.int ((iI (sk tp a)) + (iI 1)), .ref 80]) (g1 := (HW (usc sc 8010 (sk tp a)) ar 81 oc rl ou tl, q)) rfl ?_
        refine RQ.to (L' := [some (.ref 80), some (.int (iI v)), some (.int (iI 1)), e3, e4]) (st' := [.int (iI (sk tp a + 1)), .ref 80]) rfl (by simp only [iI_add, iI_sub, iI_mul, iI_neg]) ?_
        refine RQ.seg 2 (pc' := 57) (L' := [some (.ref 80), some (.int (iI v)), some (.int (iI 1)), e3, e4]) (st' := [.ref 80]) (g1 := (HW (usc sc 8010 (sk tp a + 1)) ar 81 oc rl ou tl, q)) rfl ?_
        have hps := lk_in (tp := tp) (a := a) (by omega) (by omega)
        refine RQ.callQ rfl rfl (CQ.up (p0 (D - 1) u dp (sk tp a + 1) (usc sc 8010 (sk tp a + 1)) oc rl ou tl q hdu hdp (by omega) ⟨hv, by show 0 ≤ sk tp a + 1 ∧ sk tp a + 1 ≤ _; omega, hW, hWr, hDp, fun _ => ⟨rfl, g2⟩⟩ (by show 16 * ((tp.length : Int) - (sk tp a + 1)) + 1 ≤ (m : Int); omega)) (by omega)) (fun rv9 g9 hc9 => ?_)
        obtain ⟨z, sc1, rfl, hz, rfl, hs1, hM1, hev⟩ := hc9
        have hz1 := hz.2
        have hS1 : Same muF sc sc1 := Same.tr (by repeat (first | exact Same.rf | refine Same.us rfl ?_)) hs1
        obtain ⟨hv_1, hA_1, hW_1, hWr_1, hD_1, hG_1⟩ := id hM1
        refine RQ.seg 1 (pc' := 61) (L' := [some (.ref 80), some (.int (iI v)), some (.int (iI 1)), e3, e4]) (st' := [.long ((iI z).toInt64)]) (g1 := (HW sc1 ar 81 oc rl ou tl, q)) rfl ?_
        refine RQ.to (L' := [some (.ref 80), some (.int (iI v)), some (.int (iI 1)), e3, e4]) (st' := [.long (lL z)]) rfl (by rw [iI_64 (by omega)]) ?_
        refine RQ.seg 4 (pc' := 67) (L' := [some (.ref 80), some (.int (iI v)), some (.int (iI 1)), some (.long (lL z)), none]) (st' := [.int (iI v)]) (g1 := (HW sc1 ar 81 oc rl ou tl, q)) rfl ?_
        refine RQ.seg 1 (pc' := 68) (L' := [some (.ref 80), some (.int (iI v)), some (.int (iI 1)), some (.long (lL z)), none]) (st' := [.long ((iI v).toInt64)]) (g1 := (HW sc1 ar 81 oc rl ou tl, q)) rfl ?_
        refine RQ.to (L' := [some (.ref 80), some (.int (iI v)), some (.int (iI 1)), some (.long (lL z)), none]) (st' := [.long (lL v)]) rfl (by rw [iI_64 (by omega)]) ?_
        refine RQ.seg 3 (pc' := 87) (L' := [some (.ref 80), some (.int (iI v)), some (.int (iI 1)), some (.long (lL z)), none]) (st' := [.long ((lL v) * (lL z))]) (g1 := (HW sc1 ar 81 oc rl ou tl, q)) rfl ?_
        refine RQ.to (L' := [some (.ref 80), some (.int (iI v)), some (.int (iI 1)), some (.long (lL z)), none]) (st' := [.long (lL (v * z))]) rfl (by simp only [iI_add, iI_sub, iI_mul, iI_neg, lL_add, lL_sub, lL_mul]) ?_
        have hmb := mul_b rv hz1
        refine RQ.call rfl rfl (CallR.up (d := 2) (m_within (d := 0) (v := v * z) (by omega)) (by omega)) ?_
        refine RQ.seg 2 (pc' := 5) (L' := [some (.ref 80), some (.int (iI (wi (v * z)))), some (.int (iI 1)), some (.long (lL z)), none]) (st' := []) (g1 := (HW sc1 ar 81 oc rl ou tl, q)) rfl ?_
        have hwi := wi_r (v * z)
        have hj : jn (-3) v z = wi (v * z) := rfl
        rw [show rd tp (m + 1) 6 dp a = rsq (rap (rd tp m 0 dp (sk tp a + 1)) (-3)) (rd tp m 6 dp) by show rTl tp (rd tp m) dp a = _; unfold rTl; rw [if_pos (by omega), if_pos (by omega)]]
        rcases Decidable.em ((rd tp m 0 dp (sk tp a + 1)).1 = -1) with he1 | hE1
        · obtain ⟨k1, k2⟩ := hG_1 he1
          have hg := ((rd_ok (tp := tp) m).at 0 dp (a := sk tp a + 1) (by omega)).2 he1
          replace hg : sk tp a + 1 + 1 ≤ (rd tp m 0 dp (sk tp a + 1)).2.1 ∧ _ := hg
          refine RQ.im (l6 D u dp (rd tp m 0 dp (sk tp a + 1)).2.1 (wi (v * z)) _ _ _ sc1 oc rl ou tl q hdu hdp hD ⟨hv_1, hA_1, hW_1.trans he1, by show (-1 : Int) ≤ -1 ∧ (-1 : Int) ≤ 160; omega, hD_1, fun _ => ⟨k1, k2⟩⟩ (by show 16 * ((tp.length : Int) - (rd tp m 0 dp (sk tp a + 1)).2.1) + 1 ≤ (m : Int); omega) hwi) (fun vv gg hq => ?_)
          obtain ⟨z9, sc9, e9, hz9, e8, hs9, hM9, hev9⟩ := hq
          have eR : rsq (rap (rd tp m 0 dp (sk tp a + 1)) (-3)) (rd tp m 6 dp) = pre ((rd tp m 0 dp (sk tp a + 1)).2.2 ++ [-3]) (rd tp m 6 dp (rd tp m 0 dp (sk tp a + 1)).2.1) := rsq_p (r := rap (rd tp m 0 dp (sk tp a + 1)) (-3)) he1
          rw [eR]
          refine ⟨z9, sc9, e9, hz9, e8, hS1.tr hs9, hM9, fun zz st => ?_⟩
          show ev _ (((rd tp m 0 dp (sk tp a + 1)).2.2 ++ [-3]) ++ (rd tp m 6 dp (rd tp m 0 dp (sk tp a + 1)).2.1).2.2) (v :: st) = z9 :: st
          rw [ev_app, ev_app, show ev (fun k => ar 84 (kc3 k)) (rd tp m 0 dp (sk tp a + 1)).2.2 (v :: st) = z :: v :: st from hev he1 (v :: st), ev_jn (by omega), hj]
          exact hev9 zz st
        · rw [rsq_b (show ¬ (rap (rd tp m 0 dp (sk tp a + 1)) (-3)).1 = -1 from hE1)]
          have hwn : ¬ sc1 8011 = -1 := by omega
          refine RQ.seg 3 (pc' := 10) (L' := [some (.ref 80), some (.int (iI (wi (v * z)))), some (.int (iI 1)), some (.long (lL z)), none]) (st' := [.int (iI (-1)), .int (iI (sc1 8011))]) (g1 := (HW sc1 ar 81 oc rl ou tl, q)) rfl ?_
          refine RQ.if2 (a := (sc1 8011)) (b := (-1)) rfl rfl rfl rfl (by omega) (by omega) (fun _ => ?_) (fun (q : ¬ sc1 8011 ≠ (-1)) => absurd (show sc1 8011 ≠ (-1) from by omega) q)
          refine RQ.seg 1 (pc' := 95) (L' := [some (.ref 80), some (.int (iI (wi (v * z)))), some (.int (iI 1)), some (.long (lL z)), none]) (st' := [.int (iI (wi (v * z)))]) (g1 := (HW sc1 ar 81 oc rl ou tl, q)) rfl ?_
          refine RQ.ret rfl rfl ?_
          exact ⟨_, sc1, rfl, ⟨fun z9 => absurd z9 (by decide), hwi⟩, rfl, hS1, hM1, fun z9 => absurd z9 hE1⟩
def ML6_82 (K : PK) (tp : List Int) (bg : Int) (ar : Nat → Int → Int) (m : Nat) : Prop := ∀ (D u : Nat) (dp a v : Int) (e2 e3 e4 : Option Value) (sc : Nat → Int) (oc : Nat) (rl : Nat → Option Nat) (ou : Nat → Int64) (tl : List PO) (q : Nat × Nat), dp + u = 6 → 0 ≤ dp → 6 * u + 6 ≤ D → MX tp bg 640 (-1, a, []) dp sc (ar 82) → Fu tp m 6 a → (-1000000 ≤ v ∧ v ≤ 1000000) → RQ K D 11 false (some .int) cd164 5 [some (.ref 80), some (.int (iI v)), e2, e3, e4] [] (HW sc ar 82 oc rl ou tl, q) (QM tp bg 640 82 6 (rd tp m 6 dp a) dp [v] sc ar oc rl ou tl q)
theorem ml82_6 {K : PK} {tp : List Int} {bg : Int} {ar : Nat → Int → Int} (ht : TpOK tp) {m : Nat} (p0 : MC K tp bg 640 82 ar m 0 163 5 [] []) (l6 : ML6_82 K tp bg ar m) : ML6_82 K tp bg ar (m + 1) := by
  intro D u dp a v e2 e3 e4 sc oc rl ou tl q hdu hdp hD hM hF rv
  have ht1 := ht.1
  obtain ⟨hv, hA, hW, hWr, hDp, hG⟩ := id hM
  obtain ⟨g1, g2⟩ := hG rfl
  replace g1 : sc 8010 = a := g1
  replace hW : sc 8011 = -1 := hW
  have hFu : 16 * ((tp.length : Int) - a) + 1 ≤ ((m + 1 : Nat) : Int) := hF
  have hsk := sk_r (tp := tp) (p := a) (by omega)
  have hlk : 0 ≤ lk tp a ∧ lk tp a ≤ 255 := tch_r ht (sk tp a)
  have hlm := lkm_r hlk
  refine RQ.seg 3 (pc' := 10) (L' := [some (.ref 80), some (.int (iI v)), e2, e3, e4]) (st' := [.int (iI (-1)), .int (iI (sc 8011))]) (g1 := (HW sc ar 82 oc rl ou tl, q)) rfl ?_
  refine RQ.if2 (a := (sc 8011)) (b := (-1)) rfl rfl rfl rfl (by omega) (by omega) (fun (q : sc 8011 ≠ (-1)) => absurd q (show ¬ sc 8011 ≠ (-1) from by omega)) (fun _ => ?_)
  refine RQ.seg 1 (pc' := 14) (L' := [some (.ref 80), some (.int (iI v)), e2, e3, e4]) (st' := [.ref 80]) (g1 := (HW sc ar 82 oc rl ou tl, q)) rfl ?_
  refine RQ.call rfl rfl (CallR.up (d := 1) (m_look82 (d := 0) (sc := sc) (ar := ar) (a := a) ht hv g1 (by omega)) (by omega)) ?_
  refine RQ.seg 1 (pc' := 19) (L' := [some (.ref 80), some (.int (iI v)), e2, e3, e4]) (st' := [.int (iI 42), .int (iI (lkm (lk tp a)))]) (g1 := (HW (usc sc 8010 (sk tp a)) ar 82 oc rl ou tl, q)) rfl ?_
  refine RQ.if2 (a := (lkm (lk tp a))) (b := 42) rfl rfl rfl rfl (by omega) (by omega) (fun (h2 : lkm (lk tp a) = 42) => ?_) (fun (h2 : ¬ lkm (lk tp a) = 42) => ?_)
  · skip
    refine RQ.seg 1 (pc' := 32) (L' := [some (.ref 80), some (.int (iI v)), e2, e3, e4]) (st' := [.ref 80]) (g1 := (HW (usc sc 8010 (sk tp a)) ar 82 oc rl ou tl, q)) rfl ?_
    have hcall := m_look82 (K := K) (d := 0) (oc := oc) (rl := rl) (ou := ou) (tl := tl) (q := q) (sc := usc sc 8010 (sk tp a)) (ar := ar) (a := sk tp a) ht hv rfl (by omega)
    rw [lk_sk, sk_sk] at hcall
    refine RQ.call rfl rfl (CallR.up hcall (by omega)) ?_
    refine RQ.hp (g1 := (HW (usc sc 8010 (sk tp a)) ar 82 oc rl ou tl, q)) (HW_e (by rw [usc_uu _ 8010 _ _]; try rfl) rfl) ?_
    refine RQ.seg 1 (pc' := 37) (L' := [some (.ref 80), some (.int (iI v)), e2, e3, e4]) (st' := [.int (iI 42), .int (iI (lkm (lk tp a)))]) (g1 := (HW (usc sc 8010 (sk tp a)) ar 82 oc rl ou tl, q)) rfl ?_
    refine RQ.if2 (a := (lkm (lk tp a))) (b := 42) rfl rfl rfl rfl (by omega) (by omega) (fun (h3 : lkm (lk tp a) ≠ 42) => ?_) (fun (h3 : ¬ lkm (lk tp a) ≠ 42) => ?_)
    · skip
      refine RQ.seg 7 (pc' := 53) (L' := [some (.ref 80), some (.int (iI v)), some (.int (iI 0)), e3, e4]) (st' := [.int ((iI (sk tp a)) + (iI 1)), .ref 80]) (g1 := (HW (usc sc 8010 (sk tp a)) ar 82 oc rl ou tl, q)) rfl ?_
      refine RQ.to (L' := [some (.ref 80), some (.int (iI v)), some (.int (iI 0)), e3, e4]) (st' := [.int (iI (sk tp a + 1)), .ref 80]) rfl (by simp only [iI_add, iI_sub, iI_mul, iI_neg]) ?_
      refine RQ.seg 2 (pc' := 57) (L' := [some (.ref 80), some (.int (iI v)), some (.int (iI 0)), e3, e4]) (st' := [.ref 80]) (g1 := (HW (usc sc 8010 (sk tp a + 1)) ar 82 oc rl ou tl, q)) rfl ?_
      have hps := lk_in (tp := tp) (a := a) (by omega) (by omega)
      refine RQ.callQ rfl rfl (CQ.up (p0 (D - 1) u dp (sk tp a + 1) (usc sc 8010 (sk tp a + 1)) oc rl ou tl q hdu hdp (by omega) ⟨hv, by show 0 ≤ sk tp a + 1 ∧ sk tp a + 1 ≤ _; omega, hW, hWr, hDp, fun _ => ⟨rfl, g2⟩⟩ (by show 16 * ((tp.length : Int) - (sk tp a + 1)) + 1 ≤ (m : Int); omega)) (by omega)) (fun rv9 g9 hc9 => ?_)
      obtain ⟨z, sc1, rfl, hz, rfl, hs1, hM1, hev⟩ := hc9
      have hz1 := hz.2
      have hS1 : Same muF sc sc1 := Same.tr (by repeat (first | exact Same.rf | refine Same.us rfl ?_)) hs1
      obtain ⟨hv_1, hA_1, hW_1, hWr_1, hD_1, hG_1⟩ := id hM1
      refine RQ.seg 1 (pc' := 61) (L' := [some (.ref 80), some (.int (iI v)), some (.int (iI 0)), e3, e4]) (st' := [.long ((iI z).toInt64)]) (g1 := (HW sc1 ar 82 oc rl ou tl, q)) rfl ?_
      refine RQ.to (L' := [some (.ref 80), some (.int (iI v)), some (.int (iI 0)), e3, e4]) (st' := [.long (lL z)]) rfl (by rw [iI_64 (by omega)]) ?_
      refine RQ.seg 5 (pc' := 75) (L' := [some (.ref 80), some (.int (iI v)), some (.int (iI 0)), some (.long (lL z)), none]) (st' := [.long (lL 0), .long (lL z)]) (g1 := (HW sc1 ar 82 oc rl ou tl, q)) rfl ?_
      refine RQ.lcmp (a := z) (b := 0) rfl rfl rfl (by omega) (by omega) (fun (h4 : 0 < z) => ?_) (fun (h4 : z = 0) => ?_) (fun (h4 : z < 0) => ?_)
      · skip
        refine RQ.seg 2 (pc' := 84) (L' := [some (.ref 80), some (.int (iI v)), some (.int (iI 0)), some (.long (lL z)), none]) (st' := [.int (iI v)]) (g1 := (HW sc1 ar 82 oc rl ou tl, q)) rfl ?_
        refine RQ.seg 1 (pc' := 85) (L' := [some (.ref 80), some (.int (iI v)), some (.int (iI 0)), some (.long (lL z)), none]) (st' := [.long ((iI v).toInt64)]) (g1 := (HW sc1 ar 82 oc rl ou tl, q)) rfl ?_
        refine RQ.to (L' := [some (.ref 80), some (.int (iI v)), some (.int (iI 0)), some (.long (lL z)), none]) (st' := [.long (lL v)]) rfl (by rw [iI_64 (by omega)]) ?_
        refine RQ.seg 1 (pc' := 86) (L' := [some (.ref 80), some (.int (iI v)), some (.int (iI 0)), some (.long (lL z)), none]) (st' := [.long (lL z), .long (lL v)]) (g1 := (HW sc1 ar 82 oc rl ou tl, q)) rfl ?_
        refine RQ.ldivt (a := v) (b := z) rfl (by omega) (by omega) (by omega) ?_
        have htd := tdiv_r (b := z) rv
        refine RQ.call rfl rfl (CallR.up (d := 2) (m_within (d := 0) (v := v.tdiv z) (by omega)) (by omega)) ?_
        refine RQ.seg 2 (pc' := 5) (L' := [some (.ref 80), some (.int (iI (wi (v.tdiv z)))), some (.int (iI 0)), some (.long (lL z)), none]) (st' := []) (g1 := (HW sc1 ar 82 oc rl ou tl, q)) rfl ?_
        have hwi := wi_r (v.tdiv z)
        have hj : jn (-4) v z = wi (v.tdiv z) := by show wi (if z = 0 then 0 else v.tdiv z) = _; rw [if_neg (by omega)]
        rw [show rd tp (m + 1) 6 dp a = rsq (rap (rd tp m 0 dp (sk tp a + 1)) (-4)) (rd tp m 6 dp) by show rTl tp (rd tp m) dp a = _; unfold rTl; rw [if_pos (by omega), if_neg (by omega)]]
        rcases Decidable.em ((rd tp m 0 dp (sk tp a + 1)).1 = -1) with he1 | hE1
        · obtain ⟨k1, k2⟩ := hG_1 he1
          have hg := ((rd_ok (tp := tp) m).at 0 dp (a := sk tp a + 1) (by omega)).2 he1
          replace hg : sk tp a + 1 + 1 ≤ (rd tp m 0 dp (sk tp a + 1)).2.1 ∧ _ := hg
          refine RQ.im (l6 D u dp (rd tp m 0 dp (sk tp a + 1)).2.1 (wi (v.tdiv z)) _ _ _ sc1 oc rl ou tl q hdu hdp hD ⟨hv_1, hA_1, hW_1.trans he1, by show (-1 : Int) ≤ -1 ∧ (-1 : Int) ≤ 160; omega, hD_1, fun _ => ⟨k1, k2⟩⟩ (by show 16 * ((tp.length : Int) - (rd tp m 0 dp (sk tp a + 1)).2.1) + 1 ≤ (m : Int); omega) hwi) (fun vv gg hq => ?_)
          obtain ⟨z9, sc9, e9, hz9, e8, hs9, hM9, hev9⟩ := hq
          have eR : rsq (rap (rd tp m 0 dp (sk tp a + 1)) (-4)) (rd tp m 6 dp) = pre ((rd tp m 0 dp (sk tp a + 1)).2.2 ++ [-4]) (rd tp m 6 dp (rd tp m 0 dp (sk tp a + 1)).2.1) := rsq_p (r := rap (rd tp m 0 dp (sk tp a + 1)) (-4)) he1
          rw [eR]
          refine ⟨z9, sc9, e9, hz9, e8, hS1.tr hs9, hM9, fun zz st => ?_⟩
          show ev _ (((rd tp m 0 dp (sk tp a + 1)).2.2 ++ [-4]) ++ (rd tp m 6 dp (rd tp m 0 dp (sk tp a + 1)).2.1).2.2) (v :: st) = z9 :: st
          rw [ev_app, ev_app, show ev (fun k => ar 84 (kc3 k)) (rd tp m 0 dp (sk tp a + 1)).2.2 (v :: st) = z :: v :: st from hev he1 (v :: st), ev_jn (by omega), hj]
          exact hev9 zz st
        · rw [rsq_b (show ¬ (rap (rd tp m 0 dp (sk tp a + 1)) (-4)).1 = -1 from hE1)]
          have hwn : ¬ sc1 8011 = -1 := by omega
          refine RQ.seg 3 (pc' := 10) (L' := [some (.ref 80), some (.int (iI (wi (v.tdiv z)))), some (.int (iI 0)), some (.long (lL z)), none]) (st' := [.int (iI (-1)), .int (iI (sc1 8011))]) (g1 := (HW sc1 ar 82 oc rl ou tl, q)) rfl ?_
          refine RQ.if2 (a := (sc1 8011)) (b := (-1)) rfl rfl rfl rfl (by omega) (by omega) (fun _ => ?_) (fun (q : ¬ sc1 8011 ≠ (-1)) => absurd (show sc1 8011 ≠ (-1) from by omega) q)
          refine RQ.seg 1 (pc' := 95) (L' := [some (.ref 80), some (.int (iI (wi (v.tdiv z)))), some (.int (iI 0)), some (.long (lL z)), none]) (st' := [.int (iI (wi (v.tdiv z)))]) (g1 := (HW sc1 ar 82 oc rl ou tl, q)) rfl ?_
          refine RQ.ret rfl rfl ?_
          exact ⟨_, sc1, rfl, ⟨fun z9 => absurd z9 (by decide), hwi⟩, rfl, hS1, hM1, fun z9 => absurd z9 hE1⟩
      · skip
        refine RQ.seg 3 (pc' := 87) (L' := [some (.ref 80), some (.int (iI v)), some (.int (iI 0)), some (.long (lL z)), none]) (st' := [.long (lL 0)]) (g1 := (HW sc1 ar 82 oc rl ou tl, q)) rfl ?_
        refine RQ.call rfl rfl (CallR.up (d := 2) (m_within (d := 0) (v := 0) (by omega)) (by omega)) ?_
        refine RQ.seg 2 (pc' := 5) (L' := [some (.ref 80), some (.int (iI (wi (0)))), some (.int (iI 0)), some (.long (lL z)), none]) (st' := []) (g1 := (HW sc1 ar 82 oc rl ou tl, q)) rfl ?_
        have hwi := wi_r (0)
        have hj : jn (-4) v z = wi (0) := by show wi (if z = 0 then 0 else v.tdiv z) = _; rw [if_pos (by omega)]
        rw [show rd tp (m + 1) 6 dp a = rsq (rap (rd tp m 0 dp (sk tp a + 1)) (-4)) (rd tp m 6 dp) by show rTl tp (rd tp m) dp a = _; unfold rTl; rw [if_pos (by omega), if_neg (by omega)]]
        rcases Decidable.em ((rd tp m 0 dp (sk tp a + 1)).1 = -1) with he1 | hE1
        · obtain ⟨k1, k2⟩ := hG_1 he1
          have hg := ((rd_ok (tp := tp) m).at 0 dp (a := sk tp a + 1) (by omega)).2 he1
          replace hg : sk tp a + 1 + 1 ≤ (rd tp m 0 dp (sk tp a + 1)).2.1 ∧ _ := hg
          refine RQ.im (l6 D u dp (rd tp m 0 dp (sk tp a + 1)).2.1 (wi (0)) _ _ _ sc1 oc rl ou tl q hdu hdp hD ⟨hv_1, hA_1, hW_1.trans he1, by show (-1 : Int) ≤ -1 ∧ (-1 : Int) ≤ 160; omega, hD_1, fun _ => ⟨k1, k2⟩⟩ (by show 16 * ((tp.length : Int) - (rd tp m 0 dp (sk tp a + 1)).2.1) + 1 ≤ (m : Int); omega) hwi) (fun vv gg hq => ?_)
          obtain ⟨z9, sc9, e9, hz9, e8, hs9, hM9, hev9⟩ := hq
          have eR : rsq (rap (rd tp m 0 dp (sk tp a + 1)) (-4)) (rd tp m 6 dp) = pre ((rd tp m 0 dp (sk tp a + 1)).2.2 ++ [-4]) (rd tp m 6 dp (rd tp m 0 dp (sk tp a + 1)).2.1) := rsq_p (r := rap (rd tp m 0 dp (sk tp a + 1)) (-4)) he1
          rw [eR]
          refine ⟨z9, sc9, e9, hz9, e8, hS1.tr hs9, hM9, fun zz st => ?_⟩
          show ev _ (((rd tp m 0 dp (sk tp a + 1)).2.2 ++ [-4]) ++ (rd tp m 6 dp (rd tp m 0 dp (sk tp a + 1)).2.1).2.2) (v :: st) = z9 :: st
          rw [ev_app, ev_app, show ev (fun k => ar 84 (kc3 k)) (rd tp m 0 dp (sk tp a + 1)).2.2 (v :: st) = z :: v :: st from hev he1 (v :: st), ev_jn (by omega), hj]
          exact hev9 zz st
        · rw [rsq_b (show ¬ (rap (rd tp m 0 dp (sk tp a + 1)) (-4)).1 = -1 from hE1)]
          have hwn : ¬ sc1 8011 = -1 := by omega
          refine RQ.seg 3 (pc' := 10) (L' := [some (.ref 80), some (.int (iI (wi (0)))), some (.int (iI 0)), some (.long (lL z)), none]) (st' := [.int (iI (-1)), .int (iI (sc1 8011))]) (g1 := (HW sc1 ar 82 oc rl ou tl, q)) rfl ?_
          refine RQ.if2 (a := (sc1 8011)) (b := (-1)) rfl rfl rfl rfl (by omega) (by omega) (fun _ => ?_) (fun (q : ¬ sc1 8011 ≠ (-1)) => absurd (show sc1 8011 ≠ (-1) from by omega) q)
          refine RQ.seg 1 (pc' := 95) (L' := [some (.ref 80), some (.int (iI (wi (0)))), some (.int (iI 0)), some (.long (lL z)), none]) (st' := [.int (iI (wi (0)))]) (g1 := (HW sc1 ar 82 oc rl ou tl, q)) rfl ?_
          refine RQ.ret rfl rfl ?_
          exact ⟨_, sc1, rfl, ⟨fun z9 => absurd z9 (by decide), hwi⟩, rfl, hS1, hM1, fun z9 => absurd z9 hE1⟩
      · skip
        refine RQ.seg 2 (pc' := 84) (L' := [some (.ref 80), some (.int (iI v)), some (.int (iI 0)), some (.long (lL z)), none]) (st' := [.int (iI v)]) (g1 := (HW sc1 ar 82 oc rl ou tl, q)) rfl ?_
        refine RQ.seg 1 (pc' := 85) (L' := [some (.ref 80), some (.int (iI v)), some (.int (iI 0)), some (.long (lL z)), none]) (st' := [.long ((iI v).toInt64)]) (g1 := (HW sc1 ar 82 oc rl ou tl, q)) rfl ?_
        refine RQ.to (L' := [some (.ref 80), some (.int (iI v)), some (.int (iI 0)), some (.long (lL z)), none]) (st' := [.long (lL v)]) rfl (by rw [iI_64 (by omega)]) ?_
        refine RQ.seg 1 (pc' := 86) (L' := [some (.ref 80), some (.int (iI v)), some (.int (iI 0)), some (.long (lL z)), none]) (st' := [.long (lL z), .long (lL v)]) (g1 := (HW sc1 ar 82 oc rl ou tl, q)) rfl ?_
        refine RQ.ldivt (a := v) (b := z) rfl (by omega) (by omega) (by omega) ?_
        have htd := tdiv_r (b := z) rv
        refine RQ.call rfl rfl (CallR.up (d := 2) (m_within (d := 0) (v := v.tdiv z) (by omega)) (by omega)) ?_
        refine RQ.seg 2 (pc' := 5) (L' := [some (.ref 80), some (.int (iI (wi (v.tdiv z)))), some (.int (iI 0)), some (.long (lL z)), none]) (st' := []) (g1 := (HW sc1 ar 82 oc rl ou tl, q)) rfl ?_
        have hwi := wi_r (v.tdiv z)
        have hj : jn (-4) v z = wi (v.tdiv z) := by show wi (if z = 0 then 0 else v.tdiv z) = _; rw [if_neg (by omega)]
        rw [show rd tp (m + 1) 6 dp a = rsq (rap (rd tp m 0 dp (sk tp a + 1)) (-4)) (rd tp m 6 dp) by show rTl tp (rd tp m) dp a = _; unfold rTl; rw [if_pos (by omega), if_neg (by omega)]]
        rcases Decidable.em ((rd tp m 0 dp (sk tp a + 1)).1 = -1) with he1 | hE1
        · obtain ⟨k1, k2⟩ := hG_1 he1
          have hg := ((rd_ok (tp := tp) m).at 0 dp (a := sk tp a + 1) (by omega)).2 he1
          replace hg : sk tp a + 1 + 1 ≤ (rd tp m 0 dp (sk tp a + 1)).2.1 ∧ _ := hg
          refine RQ.im (l6 D u dp (rd tp m 0 dp (sk tp a + 1)).2.1 (wi (v.tdiv z)) _ _ _ sc1 oc rl ou tl q hdu hdp hD ⟨hv_1, hA_1, hW_1.trans he1, by show (-1 : Int) ≤ -1 ∧ (-1 : Int) ≤ 160; omega, hD_1, fun _ => ⟨k1, k2⟩⟩ (by show 16 * ((tp.length : Int) - (rd tp m 0 dp (sk tp a + 1)).2.1) + 1 ≤ (m : Int); omega) hwi) (fun vv gg hq => ?_)
          obtain ⟨z9, sc9, e9, hz9, e8, hs9, hM9, hev9⟩ := hq
          have eR : rsq (rap (rd tp m 0 dp (sk tp a + 1)) (-4)) (rd tp m 6 dp) = pre ((rd tp m 0 dp (sk tp a + 1)).2.2 ++ [-4]) (rd tp m 6 dp (rd tp m 0 dp (sk tp a + 1)).2.1) := rsq_p (r := rap (rd tp m 0 dp (sk tp a + 1)) (-4)) he1
          rw [eR]
          refine ⟨z9, sc9, e9, hz9, e8, hS1.tr hs9, hM9, fun zz st => ?_⟩
          show ev _ (((rd tp m 0 dp (sk tp a + 1)).2.2 ++ [-4]) ++ (rd tp m 6 dp (rd tp m 0 dp (sk tp a + 1)).2.1).2.2) (v :: st) = z9 :: st
          rw [ev_app, ev_app, show ev (fun k => ar 84 (kc3 k)) (rd tp m 0 dp (sk tp a + 1)).2.2 (v :: st) = z :: v :: st from hev he1 (v :: st), ev_jn (by omega), hj]
          exact hev9 zz st
        · rw [rsq_b (show ¬ (rap (rd tp m 0 dp (sk tp a + 1)) (-4)).1 = -1 from hE1)]
          have hwn : ¬ sc1 8011 = -1 := by omega
          refine RQ.seg 3 (pc' := 10) (L' := [some (.ref 80), some (.int (iI (wi (v.tdiv z)))), some (.int (iI 0)), some (.long (lL z)), none]) (st' := [.int (iI (-1)), .int (iI (sc1 8011))]) (g1 := (HW sc1 ar 82 oc rl ou tl, q)) rfl ?_
          refine RQ.if2 (a := (sc1 8011)) (b := (-1)) rfl rfl rfl rfl (by omega) (by omega) (fun _ => ?_) (fun (q : ¬ sc1 8011 ≠ (-1)) => absurd (show sc1 8011 ≠ (-1) from by omega) q)
          refine RQ.seg 1 (pc' := 95) (L' := [some (.ref 80), some (.int (iI (wi (v.tdiv z)))), some (.int (iI 0)), some (.long (lL z)), none]) (st' := [.int (iI (wi (v.tdiv z)))]) (g1 := (HW sc1 ar 82 oc rl ou tl, q)) rfl ?_
          refine RQ.ret rfl rfl ?_
          exact ⟨_, sc1, rfl, ⟨fun z9 => absurd z9 (by decide), hwi⟩, rfl, hS1, hM1, fun z9 => absurd z9 hE1⟩
    · skip
      refine RQ.seg 8 (pc' := 53) (L' := [some (.ref 80), some (.int (iI v)), some (.int (iI 1)), e3, e4]) (st' := [.int ((iI (sk tp a)) + (iI 1)), .ref 80]) (g1 := (HW (usc sc 8010 (sk tp a)) ar 82 oc rl ou tl, q)) rfl ?_
      refine RQ.to (L' := [some (.ref 80), some (.int (iI v)), some (.int (iI 1)), e3, e4]) (st' := [.int (iI (sk tp a + 1)), .ref 80]) rfl (by simp only [iI_add, iI_sub, iI_mul, iI_neg]) ?_
      refine RQ.seg 2 (pc' := 57) (L' := [some (.ref 80), some (.int (iI v)), some (.int (iI 1)), e3, e4]) (st' := [.ref 80]) (g1 := (HW (usc sc 8010 (sk tp a + 1)) ar 82 oc rl ou tl, q)) rfl ?_
      have hps := lk_in (tp := tp) (a := a) (by omega) (by omega)
      refine RQ.callQ rfl rfl (CQ.up (p0 (D - 1) u dp (sk tp a + 1) (usc sc 8010 (sk tp a + 1)) oc rl ou tl q hdu hdp (by omega) ⟨hv, by show 0 ≤ sk tp a + 1 ∧ sk tp a + 1 ≤ _; omega, hW, hWr, hDp, fun _ => ⟨rfl, g2⟩⟩ (by show 16 * ((tp.length : Int) - (sk tp a + 1)) + 1 ≤ (m : Int); omega)) (by omega)) (fun rv9 g9 hc9 => ?_)
      obtain ⟨z, sc1, rfl, hz, rfl, hs1, hM1, hev⟩ := hc9
      have hz1 := hz.2
      have hS1 : Same muF sc sc1 := Same.tr (by repeat (first | exact Same.rf | refine Same.us rfl ?_)) hs1
      obtain ⟨hv_1, hA_1, hW_1, hWr_1, hD_1, hG_1⟩ := id hM1
      refine RQ.seg 1 (pc' := 61) (L' := [some (.ref 80), some (.int (iI v)), some (.int (iI 1)), e3, e4]) (st' := [.long ((iI z).toInt64)]) (g1 := (HW sc1 ar 82 oc rl ou tl, q)) rfl ?_
      refine RQ.to (L' := [some (.ref 80), some (.int (iI v)), some (.int (iI 1)), e3, e4]) (st' := [.long (lL z)]) rfl (by rw [iI_64 (by omega)]) ?_
      refine RQ.seg 4 (pc' := 67) (L' := [some (.ref 80), some (.int (iI v)), some (.int (iI 1)), some (.long (lL z)), none]) (st' := [.int (iI v)]) (g1 := (HW sc1 ar 82 oc rl ou tl, q)) rfl ?_
      refine RQ.seg 1 (pc' := 68) (L' := [some (.ref 80), some (.int (iI v)), some (.int (iI 1)), some (.long (lL z)), none]) (st' := [.long ((iI v).toInt64)]) (g1 := (HW sc1 ar 82 oc rl ou tl, q)) rfl ?_
      refine RQ.to (L' := [some (.ref 80), some (.int (iI v)), some (.int (iI 1)), some (.long (lL z)), none]) (st' := [.long (lL v)]) rfl (by rw [iI_64 (by omega)]) ?_
      refine RQ.seg 3 (pc' := 87) (L' := [some (.ref 80), some (.int (iI v)), some (.int (iI 1)), some (.long (lL z)), none]) (st' := [.long ((lL v) * (lL z))]) (g1 := (HW sc1 ar 82 oc rl ou tl, q)) rfl ?_
      refine RQ.to (L' := [some (.ref 80), some (.int (iI v)), some (.int (iI 1)), some (.long (lL z)), none]) (st' := [.long (lL (v * z))]) rfl (by simp only [iI_add, iI_sub, iI_mul, iI_neg, lL_add, lL_sub, lL_mul]) ?_
      have hmb := mul_b rv hz1
      refine RQ.call rfl rfl (CallR.up (d := 2) (m_within (d := 0) (v := v * z) (by omega)) (by omega)) ?_
      refine RQ.seg 2 (pc' := 5) (L' := [some (.ref 80), some (.int (iI (wi (v * z)))), some (.int (iI 1)), some (.long (lL z)), none]) (st' := []) (g1 := (HW sc1 ar 82 oc rl ou tl, q)) rfl ?_
      have hwi := wi_r (v * z)
      have hj : jn (-3) v z = wi (v * z) := rfl
      rw [show rd tp (m + 1) 6 dp a = rsq (rap (rd tp m 0 dp (sk tp a + 1)) (-3)) (rd tp m 6 dp) by show rTl tp (rd tp m) dp a = _; unfold rTl; rw [if_pos (by omega), if_pos (by omega)]]
      rcases Decidable.em ((rd tp m 0 dp (sk tp a + 1)).1 = -1) with he1 | hE1
      · obtain ⟨k1, k2⟩ := hG_1 he1
        have hg := ((rd_ok (tp := tp) m).at 0 dp (a := sk tp a + 1) (by omega)).2 he1
        replace hg : sk tp a + 1 + 1 ≤ (rd tp m 0 dp (sk tp a + 1)).2.1 ∧ _ := hg
        refine RQ.im (l6 D u dp (rd tp m 0 dp (sk tp a + 1)).2.1 (wi (v * z)) _ _ _ sc1 oc rl ou tl q hdu hdp hD ⟨hv_1, hA_1, hW_1.trans he1, by show (-1 : Int) ≤ -1 ∧ (-1 : Int) ≤ 160; omega, hD_1, fun _ => ⟨k1, k2⟩⟩ (by show 16 * ((tp.length : Int) - (rd tp m 0 dp (sk tp a + 1)).2.1) + 1 ≤ (m : Int); omega) hwi) (fun vv gg hq => ?_)
        obtain ⟨z9, sc9, e9, hz9, e8, hs9, hM9, hev9⟩ := hq
        have eR : rsq (rap (rd tp m 0 dp (sk tp a + 1)) (-3)) (rd tp m 6 dp) = pre ((rd tp m 0 dp (sk tp a + 1)).2.2 ++ [-3]) (rd tp m 6 dp (rd tp m 0 dp (sk tp a + 1)).2.1) := rsq_p (r := rap (rd tp m 0 dp (sk tp a + 1)) (-3)) he1
        rw [eR]
        refine ⟨z9, sc9, e9, hz9, e8, hS1.tr hs9, hM9, fun zz st => ?_⟩
        show ev _ (((rd tp m 0 dp (sk tp a + 1)).2.2 ++ [-3]) ++ (rd tp m 6 dp (rd tp m 0 dp (sk tp a + 1)).2.1).2.2) (v :: st) = z9 :: st
        rw [ev_app, ev_app, show ev (fun k => ar 84 (kc3 k)) (rd tp m 0 dp (sk tp a + 1)).2.2 (v :: st) = z :: v :: st from hev he1 (v :: st), ev_jn (by omega), hj]
        exact hev9 zz st
      · rw [rsq_b (show ¬ (rap (rd tp m 0 dp (sk tp a + 1)) (-3)).1 = -1 from hE1)]
        have hwn : ¬ sc1 8011 = -1 := by omega
        refine RQ.seg 3 (pc' := 10) (L' := [some (.ref 80), some (.int (iI (wi (v * z)))), some (.int (iI 1)), some (.long (lL z)), none]) (st' := [.int (iI (-1)), .int (iI (sc1 8011))]) (g1 := (HW sc1 ar 82 oc rl ou tl, q)) rfl ?_
        refine RQ.if2 (a := (sc1 8011)) (b := (-1)) rfl rfl rfl rfl (by omega) (by omega) (fun _ => ?_) (fun (q : ¬ sc1 8011 ≠ (-1)) => absurd (show sc1 8011 ≠ (-1) from by omega) q)
        refine RQ.seg 1 (pc' := 95) (L' := [some (.ref 80), some (.int (iI (wi (v * z)))), some (.int (iI 1)), some (.long (lL z)), none]) (st' := [.int (iI (wi (v * z)))]) (g1 := (HW sc1 ar 82 oc rl ou tl, q)) rfl ?_
        refine RQ.ret rfl rfl ?_
        exact ⟨_, sc1, rfl, ⟨fun z9 => absurd z9 (by decide), hwi⟩, rfl, hS1, hM1, fun z9 => absurd z9 hE1⟩
  · skip
    refine RQ.seg 1 (pc' := 23) (L' := [some (.ref 80), some (.int (iI v)), e2, e3, e4]) (st' := [.ref 80]) (g1 := (HW (usc sc 8010 (sk tp a)) ar 82 oc rl ou tl, q)) rfl ?_
    have hcall := m_look82 (K := K) (d := 0) (oc := oc) (rl := rl) (ou := ou) (tl := tl) (q := q) (sc := usc sc 8010 (sk tp a)) (ar := ar) (a := sk tp a) ht hv rfl (by omega)
    rw [lk_sk, sk_sk] at hcall
    refine RQ.call rfl rfl (CallR.up hcall (by omega)) ?_
    refine RQ.hp (g1 := (HW (usc sc 8010 (sk tp a)) ar 82 oc rl ou tl, q)) (HW_e (by rw [usc_uu _ 8010 _ _]; try rfl) rfl) ?_
    refine RQ.seg 1 (pc' := 28) (L' := [some (.ref 80), some (.int (iI v)), e2, e3, e4]) (st' := [.int (iI 47), .int (iI (lkm (lk tp a)))]) (g1 := (HW (usc sc 8010 (sk tp a)) ar 82 oc rl ou tl, q)) rfl ?_
    refine RQ.if2 (a := (lkm (lk tp a))) (b := 47) rfl rfl rfl rfl (by omega) (by omega) (fun (h9 : lkm (lk tp a) ≠ 47) => ?_) (fun (h9 : ¬ lkm (lk tp a) ≠ 47) => ?_)
    · skip
      refine RQ.seg 1 (pc' := 95) (L' := [some (.ref 80), some (.int (iI v)), e2, e3, e4]) (st' := [.int (iI v)]) (g1 := (HW (usc sc 8010 (sk tp a)) ar 82 oc rl ou tl, q)) rfl ?_
      refine RQ.ret rfl rfl ?_
      rw [show rd tp (m + 1) 6 dp a = (-1, sk tp a, []) by show rTl tp (rd tp m) dp a = _; unfold rTl; rw [if_neg (by omega)]]
      exact ⟨v, _, rfl, ⟨fun z9 => absurd z9 (by decide), rv⟩, rfl, (by repeat (first | exact Same.rf | refine Same.us rfl ?_)), ⟨hv, by show 0 ≤ sk tp a ∧ sk tp a ≤ _; omega, hW, hWr, hDp, fun _ => ⟨rfl, g2⟩⟩, fun _ st => rfl⟩
    · skip
      refine RQ.seg 1 (pc' := 32) (L' := [some (.ref 80), some (.int (iI v)), e2, e3, e4]) (st' := [.ref 80]) (g1 := (HW (usc sc 8010 (sk tp a)) ar 82 oc rl ou tl, q)) rfl ?_
      have hcall := m_look82 (K := K) (d := 0) (oc := oc) (rl := rl) (ou := ou) (tl := tl) (q := q) (sc := usc sc 8010 (sk tp a)) (ar := ar) (a := sk tp a) ht hv rfl (by omega)
      rw [lk_sk, sk_sk] at hcall
      refine RQ.call rfl rfl (CallR.up hcall (by omega)) ?_
      refine RQ.hp (g1 := (HW (usc sc 8010 (sk tp a)) ar 82 oc rl ou tl, q)) (HW_e (by rw [usc_uu _ 8010 _ _]; try rfl) rfl) ?_
      refine RQ.seg 1 (pc' := 37) (L' := [some (.ref 80), some (.int (iI v)), e2, e3, e4]) (st' := [.int (iI 42), .int (iI (lkm (lk tp a)))]) (g1 := (HW (usc sc 8010 (sk tp a)) ar 82 oc rl ou tl, q)) rfl ?_
      refine RQ.if2 (a := (lkm (lk tp a))) (b := 42) rfl rfl rfl rfl (by omega) (by omega) (fun (h10 : lkm (lk tp a) ≠ 42) => ?_) (fun (h10 : ¬ lkm (lk tp a) ≠ 42) => ?_)
      · skip
        refine RQ.seg 7 (pc' := 53) (L' := [some (.ref 80), some (.int (iI v)), some (.int (iI 0)), e3, e4]) (st' := [.int ((iI (sk tp a)) + (iI 1)), .ref 80]) (g1 := (HW (usc sc 8010 (sk tp a)) ar 82 oc rl ou tl, q)) rfl ?_
        refine RQ.to (L' := [some (.ref 80), some (.int (iI v)), some (.int (iI 0)), e3, e4]) (st' := [.int (iI (sk tp a + 1)), .ref 80]) rfl (by simp only [iI_add, iI_sub, iI_mul, iI_neg]) ?_
        refine RQ.seg 2 (pc' := 57) (L' := [some (.ref 80), some (.int (iI v)), some (.int (iI 0)), e3, e4]) (st' := [.ref 80]) (g1 := (HW (usc sc 8010 (sk tp a + 1)) ar 82 oc rl ou tl, q)) rfl ?_
        have hps := lk_in (tp := tp) (a := a) (by omega) (by omega)
        refine RQ.callQ rfl rfl (CQ.up (p0 (D - 1) u dp (sk tp a + 1) (usc sc 8010 (sk tp a + 1)) oc rl ou tl q hdu hdp (by omega) ⟨hv, by show 0 ≤ sk tp a + 1 ∧ sk tp a + 1 ≤ _; omega, hW, hWr, hDp, fun _ => ⟨rfl, g2⟩⟩ (by show 16 * ((tp.length : Int) - (sk tp a + 1)) + 1 ≤ (m : Int); omega)) (by omega)) (fun rv9 g9 hc9 => ?_)
        obtain ⟨z, sc1, rfl, hz, rfl, hs1, hM1, hev⟩ := hc9
        have hz1 := hz.2
        have hS1 : Same muF sc sc1 := Same.tr (by repeat (first | exact Same.rf | refine Same.us rfl ?_)) hs1
        obtain ⟨hv_1, hA_1, hW_1, hWr_1, hD_1, hG_1⟩ := id hM1
        refine RQ.seg 1 (pc' := 61) (L' := [some (.ref 80), some (.int (iI v)), some (.int (iI 0)), e3, e4]) (st' := [.long ((iI z).toInt64)]) (g1 := (HW sc1 ar 82 oc rl ou tl, q)) rfl ?_
        refine RQ.to (L' := [some (.ref 80), some (.int (iI v)), some (.int (iI 0)), e3, e4]) (st' := [.long (lL z)]) rfl (by rw [iI_64 (by omega)]) ?_
        refine RQ.seg 5 (pc' := 75) (L' := [some (.ref 80), some (.int (iI v)), some (.int (iI 0)), some (.long (lL z)), none]) (st' := [.long (lL 0), .long (lL z)]) (g1 := (HW sc1 ar 82 oc rl ou tl, q)) rfl ?_
        refine RQ.lcmp (a := z) (b := 0) rfl rfl rfl (by omega) (by omega) (fun (h11 : 0 < z) => ?_) (fun (h11 : z = 0) => ?_) (fun (h11 : z < 0) => ?_)
        · skip
          refine RQ.seg 2 (pc' := 84) (L' := [some (.ref 80), some (.int (iI v)), some (.int (iI 0)), some (.long (lL z)), none]) (st' := [.int (iI v)]) (g1 := (HW sc1 ar 82 oc rl ou tl, q)) rfl ?_
          refine RQ.seg 1 (pc' := 85) (L' := [some (.ref 80), some (.int (iI v)), some (.int (iI 0)), some (.long (lL z)), none]) (st' := [.long ((iI v).toInt64)]) (g1 := (HW sc1 ar 82 oc rl ou tl, q)) rfl ?_
          refine RQ.to (L' := [some (.ref 80), some (.int (iI v)), some (.int (iI 0)), some (.long (lL z)), none]) (st' := [.long (lL v)]) rfl (by rw [iI_64 (by omega)]) ?_
          refine RQ.seg 1 (pc' := 86) (L' := [some (.ref 80), some (.int (iI v)), some (.int (iI 0)), some (.long (lL z)), none]) (st' := [.long (lL z), .long (lL v)]) (g1 := (HW sc1 ar 82 oc rl ou tl, q)) rfl ?_
          refine RQ.ldivt (a := v) (b := z) rfl (by omega) (by omega) (by omega) ?_
          have htd := tdiv_r (b := z) rv
          refine RQ.call rfl rfl (CallR.up (d := 2) (m_within (d := 0) (v := v.tdiv z) (by omega)) (by omega)) ?_
          refine RQ.seg 2 (pc' := 5) (L' := [some (.ref 80), some (.int (iI (wi (v.tdiv z)))), some (.int (iI 0)), some (.long (lL z)), none]) (st' := []) (g1 := (HW sc1 ar 82 oc rl ou tl, q)) rfl ?_
          have hwi := wi_r (v.tdiv z)
          have hj : jn (-4) v z = wi (v.tdiv z) := by show wi (if z = 0 then 0 else v.tdiv z) = _; rw [if_neg (by omega)]
          rw [show rd tp (m + 1) 6 dp a = rsq (rap (rd tp m 0 dp (sk tp a + 1)) (-4)) (rd tp m 6 dp) by show rTl tp (rd tp m) dp a = _; unfold rTl; rw [if_pos (by omega), if_neg (by omega)]]
          rcases Decidable.em ((rd tp m 0 dp (sk tp a + 1)).1 = -1) with he1 | hE1
          · obtain ⟨k1, k2⟩ := hG_1 he1
            have hg := ((rd_ok (tp := tp) m).at 0 dp (a := sk tp a + 1) (by omega)).2 he1
            replace hg : sk tp a + 1 + 1 ≤ (rd tp m 0 dp (sk tp a + 1)).2.1 ∧ _ := hg
            refine RQ.im (l6 D u dp (rd tp m 0 dp (sk tp a + 1)).2.1 (wi (v.tdiv z)) _ _ _ sc1 oc rl ou tl q hdu hdp hD ⟨hv_1, hA_1, hW_1.trans he1, by show (-1 : Int) ≤ -1 ∧ (-1 : Int) ≤ 160; omega, hD_1, fun _ => ⟨k1, k2⟩⟩ (by show 16 * ((tp.length : Int) - (rd tp m 0 dp (sk tp a + 1)).2.1) + 1 ≤ (m : Int); omega) hwi) (fun vv gg hq => ?_)
            obtain ⟨z9, sc9, e9, hz9, e8, hs9, hM9, hev9⟩ := hq
            have eR : rsq (rap (rd tp m 0 dp (sk tp a + 1)) (-4)) (rd tp m 6 dp) = pre ((rd tp m 0 dp (sk tp a + 1)).2.2 ++ [-4]) (rd tp m 6 dp (rd tp m 0 dp (sk tp a + 1)).2.1) := rsq_p (r := rap (rd tp m 0 dp (sk tp a + 1)) (-4)) he1
            rw [eR]
            refine ⟨z9, sc9, e9, hz9, e8, hS1.tr hs9, hM9, fun zz st => ?_⟩
            show ev _ (((rd tp m 0 dp (sk tp a + 1)).2.2 ++ [-4]) ++ (rd tp m 6 dp (rd tp m 0 dp (sk tp a + 1)).2.1).2.2) (v :: st) = z9 :: st
            rw [ev_app, ev_app, show ev (fun k => ar 84 (kc3 k)) (rd tp m 0 dp (sk tp a + 1)).2.2 (v :: st) = z :: v :: st from hev he1 (v :: st), ev_jn (by omega), hj]
            exact hev9 zz st
          · rw [rsq_b (show ¬ (rap (rd tp m 0 dp (sk tp a + 1)) (-4)).1 = -1 from hE1)]
            have hwn : ¬ sc1 8011 = -1 := by omega
            refine RQ.seg 3 (pc' := 10) (L' := [some (.ref 80), some (.int (iI (wi (v.tdiv z)))), some (.int (iI 0)), some (.long (lL z)), none]) (st' := [.int (iI (-1)), .int (iI (sc1 8011))]) (g1 := (HW sc1 ar 82 oc rl ou tl, q)) rfl ?_
            refine RQ.if2 (a := (sc1 8011)) (b := (-1)) rfl rfl rfl rfl (by omega) (by omega) (fun _ => ?_) (fun (q : ¬ sc1 8011 ≠ (-1)) => absurd (show sc1 8011 ≠ (-1) from by omega) q)
            refine RQ.seg 1 (pc' := 95) (L' := [some (.ref 80), some (.int (iI (wi (v.tdiv z)))), some (.int (iI 0)), some (.long (lL z)), none]) (st' := [.int (iI (wi (v.tdiv z)))]) (g1 := (HW sc1 ar 82 oc rl ou tl, q)) rfl ?_
            refine RQ.ret rfl rfl ?_
            exact ⟨_, sc1, rfl, ⟨fun z9 => absurd z9 (by decide), hwi⟩, rfl, hS1, hM1, fun z9 => absurd z9 hE1⟩
        · skip
          refine RQ.seg 3 (pc' := 87) (L' := [some (.ref 80), some (.int (iI v)), some (.int (iI 0)), some (.long (lL z)), none]) (st' := [.long (lL 0)]) (g1 := (HW sc1 ar 82 oc rl ou tl, q)) rfl ?_
          refine RQ.call rfl rfl (CallR.up (d := 2) (m_within (d := 0) (v := 0) (by omega)) (by omega)) ?_
          refine RQ.seg 2 (pc' := 5) (L' := [some (.ref 80), some (.int (iI (wi (0)))), some (.int (iI 0)), some (.long (lL z)), none]) (st' := []) (g1 := (HW sc1 ar 82 oc rl ou tl, q)) rfl ?_
          have hwi := wi_r (0)
          have hj : jn (-4) v z = wi (0) := by show wi (if z = 0 then 0 else v.tdiv z) = _; rw [if_pos (by omega)]
          rw [show rd tp (m + 1) 6 dp a = rsq (rap (rd tp m 0 dp (sk tp a + 1)) (-4)) (rd tp m 6 dp) by show rTl tp (rd tp m) dp a = _; unfold rTl; rw [if_pos (by omega), if_neg (by omega)]]
          rcases Decidable.em ((rd tp m 0 dp (sk tp a + 1)).1 = -1) with he1 | hE1
          · obtain ⟨k1, k2⟩ := hG_1 he1
            have hg := ((rd_ok (tp := tp) m).at 0 dp (a := sk tp a + 1) (by omega)).2 he1
            replace hg : sk tp a + 1 + 1 ≤ (rd tp m 0 dp (sk tp a + 1)).2.1 ∧ _ := hg
            refine RQ.im (l6 D u dp (rd tp m 0 dp (sk tp a + 1)).2.1 (wi (0)) _ _ _ sc1 oc rl ou tl q hdu hdp hD ⟨hv_1, hA_1, hW_1.trans he1, by show (-1 : Int) ≤ -1 ∧ (-1 : Int) ≤ 160; omega, hD_1, fun _ => ⟨k1, k2⟩⟩ (by show 16 * ((tp.length : Int) - (rd tp m 0 dp (sk tp a + 1)).2.1) + 1 ≤ (m : Int); omega) hwi) (fun vv gg hq => ?_)
            obtain ⟨z9, sc9, e9, hz9, e8, hs9, hM9, hev9⟩ := hq
            have eR : rsq (rap (rd tp m 0 dp (sk tp a + 1)) (-4)) (rd tp m 6 dp) = pre ((rd tp m 0 dp (sk tp a + 1)).2.2 ++ [-4]) (rd tp m 6 dp (rd tp m 0 dp (sk tp a + 1)).2.1) := rsq_p (r := rap (rd tp m 0 dp (sk tp a + 1)) (-4)) he1
            rw [eR]
            refine ⟨z9, sc9, e9, hz9, e8, hS1.tr hs9, hM9, fun zz st => ?_⟩
            show ev _ (((rd tp m 0 dp (sk tp a + 1)).2.2 ++ [-4]) ++ (rd tp m 6 dp (rd tp m 0 dp (sk tp a + 1)).2.1).2.2) (v :: st) = z9 :: st
            rw [ev_app, ev_app, show ev (fun k => ar 84 (kc3 k)) (rd tp m 0 dp (sk tp a + 1)).2.2 (v :: st) = z :: v :: st from hev he1 (v :: st), ev_jn (by omega), hj]
            exact hev9 zz st
          · rw [rsq_b (show ¬ (rap (rd tp m 0 dp (sk tp a + 1)) (-4)).1 = -1 from hE1)]
            have hwn : ¬ sc1 8011 = -1 := by omega
            refine RQ.seg 3 (pc' := 10) (L' := [some (.ref 80), some (.int (iI (wi (0)))), some (.int (iI 0)), some (.long (lL z)), none]) (st' := [.int (iI (-1)), .int (iI (sc1 8011))]) (g1 := (HW sc1 ar 82 oc rl ou tl, q)) rfl ?_
            refine RQ.if2 (a := (sc1 8011)) (b := (-1)) rfl rfl rfl rfl (by omega) (by omega) (fun _ => ?_) (fun (q : ¬ sc1 8011 ≠ (-1)) => absurd (show sc1 8011 ≠ (-1) from by omega) q)
            refine RQ.seg 1 (pc' := 95) (L' := [some (.ref 80), some (.int (iI (wi (0)))), some (.int (iI 0)), some (.long (lL z)), none]) (st' := [.int (iI (wi (0)))]) (g1 := (HW sc1 ar 82 oc rl ou tl, q)) rfl ?_
            refine RQ.ret rfl rfl ?_
            exact ⟨_, sc1, rfl, ⟨fun z9 => absurd z9 (by decide), hwi⟩, rfl, hS1, hM1, fun z9 => absurd z9 hE1⟩
        · skip
          refine RQ.seg 2 (pc' := 84) (L' := [some (.ref 80), some (.int (iI v)), some (.int (iI 0)), some (.long (lL z)), none]) (st' := [.int (iI v)]) (g1 := (HW sc1 ar 82 oc rl ou tl, q)) rfl ?_
          refine RQ.seg 1 (pc' := 85) (L' := [some (.ref 80), some (.int (iI v)), some (.int (iI 0)), some (.long (lL z)), none]) (st' := [.long ((iI v).toInt64)]) (g1 := (HW sc1 ar 82 oc rl ou tl, q)) rfl ?_
          refine RQ.to (L' := [some (.ref 80), some (.int (iI v)), some (.int (iI 0)), some (.long (lL z)), none]) (st' := [.long (lL v)]) rfl (by rw [iI_64 (by omega)]) ?_
          refine RQ.seg 1 (pc' := 86) (L' := [some (.ref 80), some (.int (iI v)), some (.int (iI 0)), some (.long (lL z)), none]) (st' := [.long (lL z), .long (lL v)]) (g1 := (HW sc1 ar 82 oc rl ou tl, q)) rfl ?_
          refine RQ.ldivt (a := v) (b := z) rfl (by omega) (by omega) (by omega) ?_
          have htd := tdiv_r (b := z) rv
          refine RQ.call rfl rfl (CallR.up (d := 2) (m_within (d := 0) (v := v.tdiv z) (by omega)) (by omega)) ?_
          refine RQ.seg 2 (pc' := 5) (L' := [some (.ref 80), some (.int (iI (wi (v.tdiv z)))), some (.int (iI 0)), some (.long (lL z)), none]) (st' := []) (g1 := (HW sc1 ar 82 oc rl ou tl, q)) rfl ?_
          have hwi := wi_r (v.tdiv z)
          have hj : jn (-4) v z = wi (v.tdiv z) := by show wi (if z = 0 then 0 else v.tdiv z) = _; rw [if_neg (by omega)]
          rw [show rd tp (m + 1) 6 dp a = rsq (rap (rd tp m 0 dp (sk tp a + 1)) (-4)) (rd tp m 6 dp) by show rTl tp (rd tp m) dp a = _; unfold rTl; rw [if_pos (by omega), if_neg (by omega)]]
          rcases Decidable.em ((rd tp m 0 dp (sk tp a + 1)).1 = -1) with he1 | hE1
          · obtain ⟨k1, k2⟩ := hG_1 he1
            have hg := ((rd_ok (tp := tp) m).at 0 dp (a := sk tp a + 1) (by omega)).2 he1
            replace hg : sk tp a + 1 + 1 ≤ (rd tp m 0 dp (sk tp a + 1)).2.1 ∧ _ := hg
            refine RQ.im (l6 D u dp (rd tp m 0 dp (sk tp a + 1)).2.1 (wi (v.tdiv z)) _ _ _ sc1 oc rl ou tl q hdu hdp hD ⟨hv_1, hA_1, hW_1.trans he1, by show (-1 : Int) ≤ -1 ∧ (-1 : Int) ≤ 160; omega, hD_1, fun _ => ⟨k1, k2⟩⟩ (by show 16 * ((tp.length : Int) - (rd tp m 0 dp (sk tp a + 1)).2.1) + 1 ≤ (m : Int); omega) hwi) (fun vv gg hq => ?_)
            obtain ⟨z9, sc9, e9, hz9, e8, hs9, hM9, hev9⟩ := hq
            have eR : rsq (rap (rd tp m 0 dp (sk tp a + 1)) (-4)) (rd tp m 6 dp) = pre ((rd tp m 0 dp (sk tp a + 1)).2.2 ++ [-4]) (rd tp m 6 dp (rd tp m 0 dp (sk tp a + 1)).2.1) := rsq_p (r := rap (rd tp m 0 dp (sk tp a + 1)) (-4)) he1
            rw [eR]
            refine ⟨z9, sc9, e9, hz9, e8, hS1.tr hs9, hM9, fun zz st => ?_⟩
            show ev _ (((rd tp m 0 dp (sk tp a + 1)).2.2 ++ [-4]) ++ (rd tp m 6 dp (rd tp m 0 dp (sk tp a + 1)).2.1).2.2) (v :: st) = z9 :: st
            rw [ev_app, ev_app, show ev (fun k => ar 84 (kc3 k)) (rd tp m 0 dp (sk tp a + 1)).2.2 (v :: st) = z :: v :: st from hev he1 (v :: st), ev_jn (by omega), hj]
            exact hev9 zz st
          · rw [rsq_b (show ¬ (rap (rd tp m 0 dp (sk tp a + 1)) (-4)).1 = -1 from hE1)]
            have hwn : ¬ sc1 8011 = -1 := by omega
            refine RQ.seg 3 (pc' := 10) (L' := [some (.ref 80), some (.int (iI (wi (v.tdiv z)))), some (.int (iI 0)), some (.long (lL z)), none]) (st' := [.int (iI (-1)), .int (iI (sc1 8011))]) (g1 := (HW sc1 ar 82 oc rl ou tl, q)) rfl ?_
            refine RQ.if2 (a := (sc1 8011)) (b := (-1)) rfl rfl rfl rfl (by omega) (by omega) (fun _ => ?_) (fun (q : ¬ sc1 8011 ≠ (-1)) => absurd (show sc1 8011 ≠ (-1) from by omega) q)
            refine RQ.seg 1 (pc' := 95) (L' := [some (.ref 80), some (.int (iI (wi (v.tdiv z)))), some (.int (iI 0)), some (.long (lL z)), none]) (st' := [.int (iI (wi (v.tdiv z)))]) (g1 := (HW sc1 ar 82 oc rl ou tl, q)) rfl ?_
            refine RQ.ret rfl rfl ?_
            exact ⟨_, sc1, rfl, ⟨fun z9 => absurd z9 (by decide), hwi⟩, rfl, hS1, hM1, fun z9 => absurd z9 hE1⟩
      · skip
        refine RQ.seg 8 (pc' := 53) (L' := [some (.ref 80), some (.int (iI v)), some (.int (iI 1)), e3, e4]) (st' := [.int ((iI (sk tp a)) + (iI 1)), .ref 80]) (g1 := (HW (usc sc 8010 (sk tp a)) ar 82 oc rl ou tl, q)) rfl ?_
        refine RQ.to (L' := [some (.ref 80), some (.int (iI v)), some (.int (iI 1)), e3, e4]) (st' := [.int (iI (sk tp a + 1)), .ref 80]) rfl (by simp only [iI_add, iI_sub, iI_mul, iI_neg]) ?_
        refine RQ.seg 2 (pc' := 57) (L' := [some (.ref 80), some (.int (iI v)), some (.int (iI 1)), e3, e4]) (st' := [.ref 80]) (g1 := (HW (usc sc 8010 (sk tp a + 1)) ar 82 oc rl ou tl, q)) rfl ?_
        have hps := lk_in (tp := tp) (a := a) (by omega) (by omega)
        refine RQ.callQ rfl rfl (CQ.up (p0 (D - 1) u dp (sk tp a + 1) (usc sc 8010 (sk tp a + 1)) oc rl ou tl q hdu hdp (by omega) ⟨hv, by show 0 ≤ sk tp a + 1 ∧ sk tp a + 1 ≤ _; omega, hW, hWr, hDp, fun _ => ⟨rfl, g2⟩⟩ (by show 16 * ((tp.length : Int) - (sk tp a + 1)) + 1 ≤ (m : Int); omega)) (by omega)) (fun rv9 g9 hc9 => ?_)
        obtain ⟨z, sc1, rfl, hz, rfl, hs1, hM1, hev⟩ := hc9
        have hz1 := hz.2
        have hS1 : Same muF sc sc1 := Same.tr (by repeat (first | exact Same.rf | refine Same.us rfl ?_)) hs1
        obtain ⟨hv_1, hA_1, hW_1, hWr_1, hD_1, hG_1⟩ := id hM1
        refine RQ.seg 1 (pc' := 61) (L' := [some (.ref 80), some (.int (iI v)), some (.int (iI 1)), e3, e4]) (st' := [.long ((iI z).toInt64)]) (g1 := (HW sc1 ar 82 oc rl ou tl, q)) rfl ?_
        refine RQ.to (L' := [some (.ref 80), some (.int (iI v)), some (.int (iI 1)), e3, e4]) (st' := [.long (lL z)]) rfl (by rw [iI_64 (by omega)]) ?_
        refine RQ.seg 4 (pc' := 67) (L' := [some (.ref 80), some (.int (iI v)), some (.int (iI 1)), some (.long (lL z)), none]) (st' := [.int (iI v)]) (g1 := (HW sc1 ar 82 oc rl ou tl, q)) rfl ?_
        refine RQ.seg 1 (pc' := 68) (L' := [some (.ref 80), some (.int (iI v)), some (.int (iI 1)), some (.long (lL z)), none]) (st' := [.long ((iI v).toInt64)]) (g1 := (HW sc1 ar 82 oc rl ou tl, q)) rfl ?_
        refine RQ.to (L' := [some (.ref 80), some (.int (iI v)), some (.int (iI 1)), some (.long (lL z)), none]) (st' := [.long (lL v)]) rfl (by rw [iI_64 (by omega)]) ?_
        refine RQ.seg 3 (pc' := 87) (L' := [some (.ref 80), some (.int (iI v)), some (.int (iI 1)), some (.long (lL z)), none]) (st' := [.long ((lL v) * (lL z))]) (g1 := (HW sc1 ar 82 oc rl ou tl, q)) rfl ?_
        refine RQ.to (L' := [some (.ref 80), some (.int (iI v)), some (.int (iI 1)), some (.long (lL z)), none]) (st' := [.long (lL (v * z))]) rfl (by simp only [iI_add, iI_sub, iI_mul, iI_neg, lL_add, lL_sub, lL_mul]) ?_
        have hmb := mul_b rv hz1
        refine RQ.call rfl rfl (CallR.up (d := 2) (m_within (d := 0) (v := v * z) (by omega)) (by omega)) ?_
        refine RQ.seg 2 (pc' := 5) (L' := [some (.ref 80), some (.int (iI (wi (v * z)))), some (.int (iI 1)), some (.long (lL z)), none]) (st' := []) (g1 := (HW sc1 ar 82 oc rl ou tl, q)) rfl ?_
        have hwi := wi_r (v * z)
        have hj : jn (-3) v z = wi (v * z) := rfl
        rw [show rd tp (m + 1) 6 dp a = rsq (rap (rd tp m 0 dp (sk tp a + 1)) (-3)) (rd tp m 6 dp) by show rTl tp (rd tp m) dp a = _; unfold rTl; rw [if_pos (by omega), if_pos (by omega)]]
        rcases Decidable.em ((rd tp m 0 dp (sk tp a + 1)).1 = -1) with he1 | hE1
        · obtain ⟨k1, k2⟩ := hG_1 he1
          have hg := ((rd_ok (tp := tp) m).at 0 dp (a := sk tp a + 1) (by omega)).2 he1
          replace hg : sk tp a + 1 + 1 ≤ (rd tp m 0 dp (sk tp a + 1)).2.1 ∧ _ := hg
          refine RQ.im (l6 D u dp (rd tp m 0 dp (sk tp a + 1)).2.1 (wi (v * z)) _ _ _ sc1 oc rl ou tl q hdu hdp hD ⟨hv_1, hA_1, hW_1.trans he1, by show (-1 : Int) ≤ -1 ∧ (-1 : Int) ≤ 160; omega, hD_1, fun _ => ⟨k1, k2⟩⟩ (by show 16 * ((tp.length : Int) - (rd tp m 0 dp (sk tp a + 1)).2.1) + 1 ≤ (m : Int); omega) hwi) (fun vv gg hq => ?_)
          obtain ⟨z9, sc9, e9, hz9, e8, hs9, hM9, hev9⟩ := hq
          have eR : rsq (rap (rd tp m 0 dp (sk tp a + 1)) (-3)) (rd tp m 6 dp) = pre ((rd tp m 0 dp (sk tp a + 1)).2.2 ++ [-3]) (rd tp m 6 dp (rd tp m 0 dp (sk tp a + 1)).2.1) := rsq_p (r := rap (rd tp m 0 dp (sk tp a + 1)) (-3)) he1
          rw [eR]
          refine ⟨z9, sc9, e9, hz9, e8, hS1.tr hs9, hM9, fun zz st => ?_⟩
          show ev _ (((rd tp m 0 dp (sk tp a + 1)).2.2 ++ [-3]) ++ (rd tp m 6 dp (rd tp m 0 dp (sk tp a + 1)).2.1).2.2) (v :: st) = z9 :: st
          rw [ev_app, ev_app, show ev (fun k => ar 84 (kc3 k)) (rd tp m 0 dp (sk tp a + 1)).2.2 (v :: st) = z :: v :: st from hev he1 (v :: st), ev_jn (by omega), hj]
          exact hev9 zz st
        · rw [rsq_b (show ¬ (rap (rd tp m 0 dp (sk tp a + 1)) (-3)).1 = -1 from hE1)]
          have hwn : ¬ sc1 8011 = -1 := by omega
          refine RQ.seg 3 (pc' := 10) (L' := [some (.ref 80), some (.int (iI (wi (v * z)))), some (.int (iI 1)), some (.long (lL z)), none]) (st' := [.int (iI (-1)), .int (iI (sc1 8011))]) (g1 := (HW sc1 ar 82 oc rl ou tl, q)) rfl ?_
          refine RQ.if2 (a := (sc1 8011)) (b := (-1)) rfl rfl rfl rfl (by omega) (by omega) (fun _ => ?_) (fun (q : ¬ sc1 8011 ≠ (-1)) => absurd (show sc1 8011 ≠ (-1) from by omega) q)
          refine RQ.seg 1 (pc' := 95) (L' := [some (.ref 80), some (.int (iI (wi (v * z)))), some (.int (iI 1)), some (.long (lL z)), none]) (st' := [.int (iI (wi (v * z)))]) (g1 := (HW sc1 ar 82 oc rl ou tl, q)) rfl ?_
          refine RQ.ret rfl rfl ?_
          exact ⟨_, sc1, rfl, ⟨fun z9 => absurd z9 (by decide), hwi⟩, rfl, hS1, hM1, fun z9 => absurd z9 hE1⟩
