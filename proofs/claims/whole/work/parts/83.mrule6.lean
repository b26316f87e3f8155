/-! the reference reads a rule: what is compared, by wip/tools -/
/-! the reference reads a rule: what is compared -/
theorem pcm_m (c : Int) : pcm (lkm c) = pcm c := by unfold lkm; split; (rename_i h; rw [h]; rfl); rfl
theorem pcm_v {c : Int} (h : pcm c ≠ -1) : (c = 61 ∧ pcm c = 0) ∨ (c = 60 ∧ pcm c = 1) ∨ (c = 62 ∧ pcm c = 2) := by
  unfold pcm at h ⊢
  by_cases c1 : c = 61
  · subst c1; decide
  by_cases c2 : c = 60
  · subst c2; decide
  by_cases c3 : c = 62
  · subst c3; decide
  rw [if_neg c1, if_neg c2, if_neg c3] at h
  exact absurd rfl h
theorem jn_5 {v z : Int} : jn (-5) v z = if v = z then 1 else 0 := by show wi (if v = z then 1 else 0) = _; split <;> rfl
theorem jn_6 {v z : Int} : jn (-6) v z = if v < z then 1 else 0 := by show wi (if v < z then 1 else 0) = _; split <;> rfl
theorem jn_7 {v z : Int} : jn (-7) v z = if z < v then 1 else 0 := by show wi (if z < v then 1 else 0) = _; split <;> rfl
def ML8_81 (K : PK) (tp : List Int) (bg : Int) (ar : Nat → Int → Int) (m : Nat) : Prop := ∀ (D u : Nat) (dp a v s1 s2 : Int) (e4 e5 : Option Value) (sc : Nat → Int) (oc : Nat) (rl : Nat → Option Nat) (ou : Nat → Int64) (tl : List PO) (q : Nat × Nat), dp + u = 6 → 0 ≤ dp → 6 * u + 8 ≤ D → MX tp bg 160 (-1, a, []) dp sc (ar 81) → Fu tp m 8 a → (-1000000 ≤ v ∧ v ≤ 1000000) → RQ K D 11 false (some .boolean) cd167 13 [some (.ref 80), some (.int (iI s1)), some (.int (iI s2)), some (.int (iI v)), e4, e5] [] (HW sc ar 81 oc rl ou tl, q) (QM tp bg 160 81 8 (rd tp m 8 dp a) dp [v] sc ar oc rl ou tl q)
theorem ml81_8 {K : PK} {tp : List Int} {bg : Int} {ar : Nat → Int → Int} (ht : TpOK tp) {m : Nat} (p2 : MC K tp bg 160 81 ar m 2 165 7 [] []) : ML8_81 K tp bg ar (m + 1) := by
  intro D u dp a v s1 s2 e4 e5 sc oc rl ou tl q hdu hdp hD hM hF rv
  have ht1 := ht.1
  obtain ⟨hv, hA, hW, hWr, hDp, hG⟩ := id hM
  obtain ⟨g1, g2⟩ := hG rfl
  replace g1 : sc 8010 = a := g1
  replace hW : sc 8011 = -1 := hW
  have hFu : 16 * ((tp.length : Int) - a) + 1 ≤ ((m + 1 : Nat) : Int) := hF
  have hsk := sk_r (tp := tp) (p := a) (by omega)
  have hlk : 0 ≤ lk tp a ∧ lk tp a ≤ 255 := tch_r ht (sk tp a)
  have hlm := lkm_r hlk
  refine RQ.seg 3 (pc' := 18) (L' := [some (.ref 80), some (.int (iI s1)), some (.int (iI s2)), some (.int (iI v)), e4, e5]) (st' := [.int (iI (-1)), .int (iI (sc 8011))]) (g1 := (HW sc ar 81 oc rl ou tl, q)) rfl ?_
  refine RQ.if2 (a := (sc 8011)) (b := (-1)) rfl rfl rfl rfl (by omega) (by omega) (fun _ => ?_) (fun (q : ¬ sc 8011 = (-1)) => absurd (show sc 8011 = (-1) from by omega) q)
  refine RQ.seg 1 (pc' := 24) (L' := [some (.ref 80), some (.int (iI s1)), some (.int (iI s2)), some (.int (iI v)), e4, e5]) (st' := [.ref 80]) (g1 := (HW sc ar 81 oc rl ou tl, q)) rfl ?_
  refine RQ.call rfl rfl (CallR.up (d := 1) (m_look81 (d := 0) (sc := sc) (ar := ar) (a := a) ht hv g1 (by omega)) (by omega)) ?_
  refine RQ.seg 2 (pc' := 31) (L' := [some (.ref 80), some (.int (iI s1)), some (.int (iI s2)), some (.int (iI v)), some (.int (iI (lkm (lk tp a)))), e5]) (st' := [.int (iI (lkm (lk tp a)))]) (g1 := (HW (usc sc 8010 (sk tp a)) ar 81 oc rl ou tl, q)) rfl ?_
  rcases Decidable.em (pcm (lk tp a) ≠ -1) with hpa | hpa
  · skip
    have hpv := pcm_v hpa
    have hlc : lkm (lk tp a) = lk tp a := hlm.2.2.2.1 (by omega)
    have hps := lk_in (tp := tp) (a := a) (by omega) (by omega)
    refine RQ.call rfl rfl (CallR.up (d := 1) (m_isSign_t (d := 0) (c := lkm (lk tp a)) (by omega) (by rw [pcm_m]; exact hpa)) (by omega)) ?_
    refine RQ.seg 6 (pc' := 49) (L' := [some (.ref 80), some (.int (iI s1)), some (.int (iI s2)), some (.int (iI v)), some (.int (iI (lkm (lk tp a)))), e5]) (st' := [.int ((iI (sk tp a)) + (iI 1)), .ref 80]) (g1 := (HW (usc sc 8010 (sk tp a)) ar 81 oc rl ou tl, q)) rfl ?_
    refine RQ.to (L' := [some (.ref 80), some (.int (iI s1)), some (.int (iI s2)), some (.int (iI v)), some (.int (iI (lkm (lk tp a)))), e5]) (st' := [.int (iI (sk tp a + 1)), .ref 80]) rfl (by simp only [iI_add, iI_sub, iI_mul, iI_neg]) ?_
    refine RQ.seg 2 (pc' := 53) (L' := [some (.ref 80), some (.int (iI s1)), some (.int (iI s2)), some (.int (iI v)), some (.int (iI (lkm (lk tp a)))), e5]) (st' := [.ref 80]) (g1 := (HW (usc sc 8010 (sk tp a + 1)) ar 81 oc rl ou tl, q)) rfl ?_
    refine RQ.callQ rfl rfl (CQ.up (p2 (D - 1) u dp (sk tp a + 1) (usc sc 8010 (sk tp a + 1)) oc rl ou tl q hdu hdp (by omega) ⟨hv, by show 0 ≤ sk tp a + 1 ∧ sk tp a + 1 ≤ _; omega, hW, hWr, hDp, fun _ => ⟨rfl, g2⟩⟩ (by show 16 * ((tp.length : Int) - (sk tp a + 1)) + 3 ≤ (m : Int); omega)) (by omega)) (fun rv9 g9 hc9 => ?_)
    obtain ⟨z, sc1, rfl, hz, rfl, hs1, hM1, hev⟩ := hc9
    have hz1 := hz.2
    have hS1 : Same muF sc sc1 := Same.tr (by repeat (first | exact Same.rf | refine Same.us rfl ?_)) hs1
    refine RQ.seg 3 (pc' := 62) (L' := [some (.ref 80), some (.int (iI s1)), some (.int (iI s2)), some (.int (iI v)), some (.int (iI (lkm (lk tp a)))), some (.int (iI z))]) (st' := [.int (iI 61), .int (iI (lkm (lk tp a)))]) (g1 := (HW sc1 ar 81 oc rl ou tl, q)) rfl ?_
    refine RQ.if2 (a := (lkm (lk tp a))) (b := 61) rfl rfl rfl rfl (by omega) (by omega) (fun (h2 : lkm (lk tp a) ≠ 61) => ?_) (fun (h2 : ¬ lkm (lk tp a) ≠ 61) => ?_)
    · skip
      refine RQ.seg 2 (pc' := 83) (L' := [some (.ref 80), some (.int (iI s1)), some (.int (iI s2)), some (.int (iI v)), some (.int (iI (lkm (lk tp a)))), some (.int (iI z))]) (st' := [.int (iI 60), .int (iI (lkm (lk tp a)))]) (g1 := (HW sc1 ar 81 oc rl ou tl, q)) rfl ?_
      refine RQ.if2 (a := (lkm (lk tp a))) (b := 60) rfl rfl rfl rfl (by omega) (by omega) (fun (h3 : lkm (lk tp a) ≠ 60) => ?_) (fun (h3 : ¬ lkm (lk tp a) ≠ 60) => ?_)
      · skip
        refine RQ.seg 2 (pc' := 103) (L' := [some (.ref 80), some (.int (iI s1)), some (.int (iI s2)), some (.int (iI v)), some (.int (iI (lkm (lk tp a)))), some (.int (iI z))]) (st' := [.int (iI z), .int (iI v)]) (g1 := (HW sc1 ar 81 oc rl ou tl, q)) rfl ?_
        refine RQ.if2 (a := v) (b := z) rfl rfl rfl rfl (by omega) (by omega) (fun (h4 : v ≤ z) => ?_) (fun (h4 : ¬ v ≤ z) => ?_)
        · skip
          refine RQ.seg 1 (pc' := 111) (L' := [some (.ref 80), some (.int (iI s1)), some (.int (iI s2)), some (.int (iI v)), some (.int (iI (lkm (lk tp a)))), some (.int (iI z))]) (st' := [.int (iI 0)]) (g1 := (HW sc1 ar 81 oc rl ou tl, q)) rfl ?_
          refine RQ.ret rfl rfl ?_
          rw [show rd tp (m + 1) 8 dp a = rap (rd tp m 2 dp (sk tp a + 1)) (-5 - pcm (lk tp a)) by show rCmp tp (rd tp m) dp a = _; unfold rCmp; rw [if_neg (by omega)]]
          refine ⟨0, sc1, rfl, ⟨fun _ => by omega, by omega, by omega⟩, rfl, hS1, hM1, fun zz st => ?_⟩
          show ev _ ((rd tp m 2 dp (sk tp a + 1)).2.2 ++ [-5 - pcm (lk tp a)]) (v :: st) = 0 :: st
          rw [ev_app, show ev (fun k => ar 84 (kc3 k)) (rd tp m 2 dp (sk tp a + 1)).2.2 (v :: st) = z :: v :: st from hev zz (v :: st), ev_jn (by omega)]
          rcases hpv with ⟨e1, e2⟩ | ⟨e1, e2⟩ | ⟨e1, e2⟩ <;> first | (exfalso; omega) | (rw [e2]; first | (rw [show (-5 - 0 : Int) = -5 from rfl, jn_5]; first | rw [if_pos (by omega)] | rw [if_neg (by omega)]) | (rw [show (-5 - 1 : Int) = -6 from rfl, jn_6]; first | rw [if_pos (by omega)] | rw [if_neg (by omega)]) | (rw [show (-5 - 2 : Int) = -7 from rfl, jn_7]; first | rw [if_pos (by omega)] | rw [if_neg (by omega)]))
        · skip
          refine RQ.seg 2 (pc' := 111) (L' := [some (.ref 80), some (.int (iI s1)), some (.int (iI s2)), some (.int (iI v)), some (.int (iI (lkm (lk tp a)))), some (.int (iI z))]) (st' := [.int (iI 1)]) (g1 := (HW sc1 ar 81 oc rl ou tl, q)) rfl ?_
          refine RQ.ret rfl rfl ?_
          rw [show rd tp (m + 1) 8 dp a = rap (rd tp m 2 dp (sk tp a + 1)) (-5 - pcm (lk tp a)) by show rCmp tp (rd tp m) dp a = _; unfold rCmp; rw [if_neg (by omega)]]
          refine ⟨1, sc1, rfl, ⟨fun _ => by omega, by omega, by omega⟩, rfl, hS1, hM1, fun zz st => ?_⟩
          show ev _ ((rd tp m 2 dp (sk tp a + 1)).2.2 ++ [-5 - pcm (lk tp a)]) (v :: st) = 1 :: st
          rw [ev_app, show ev (fun k => ar 84 (kc3 k)) (rd tp m 2 dp (sk tp a + 1)).2.2 (v :: st) = z :: v :: st from hev zz (v :: st), ev_jn (by omega)]
          rcases hpv with ⟨e1, e2⟩ | ⟨e1, e2⟩ | ⟨e1, e2⟩ <;> first | (exfalso; omega) | (rw [e2]; first | (rw [show (-5 - 0 : Int) = -5 from rfl, jn_5]; first | rw [if_pos (by omega)] | rw [if_neg (by omega)]) | (rw [show (-5 - 1 : Int) = -6 from rfl, jn_6]; first | rw [if_pos (by omega)] | rw [if_neg (by omega)]) | (rw [show (-5 - 2 : Int) = -7 from rfl, jn_7]; first | rw [if_pos (by omega)] | rw [if_neg (by omega)]))
      · skip
        refine RQ.seg 2 (pc' := 89) (L' := [some (.ref 80), some (.int (iI s1)), some (.int (iI s2)), some (.int (iI v)), some (.int (iI (lkm (lk tp a)))), some (.int (iI z))]) (st' := [.int (iI z), .int (iI v)]) (g1 := (HW sc1 ar 81 oc rl ou tl, q)) rfl ?_
        refine RQ.if2 (a := v) (b := z) rfl rfl rfl rfl (by omega) (by omega) (fun (h5 : z ≤ v) => ?_) (fun (h5 : ¬ z ≤ v) => ?_)
        · skip
          refine RQ.seg 2 (pc' := 111) (L' := [some (.ref 80), some (.int (iI s1)), some (.int (iI s2)), some (.int (iI v)), some (.int (iI (lkm (lk tp a)))), some (.int (iI z))]) (st' := [.int (iI 0)]) (g1 := (HW sc1 ar 81 oc rl ou tl, q)) rfl ?_
          refine RQ.ret rfl rfl ?_
          rw [show rd tp (m + 1) 8 dp a = rap (rd tp m 2 dp (sk tp a + 1)) (-5 - pcm (lk tp a)) by show rCmp tp (rd tp m) dp a = _; unfold rCmp; rw [if_neg (by omega)]]
          refine ⟨0, sc1, rfl, ⟨fun _ => by omega, by omega, by omega⟩, rfl, hS1, hM1, fun zz st => ?_⟩
          show ev _ ((rd tp m 2 dp (sk tp a + 1)).2.2 ++ [-5 - pcm (lk tp a)]) (v :: st) = 0 :: st
          rw [ev_app, show ev (fun k => ar 84 (kc3 k)) (rd tp m 2 dp (sk tp a + 1)).2.2 (v :: st) = z :: v :: st from hev zz (v :: st), ev_jn (by omega)]
          rcases hpv with ⟨e1, e2⟩ | ⟨e1, e2⟩ | ⟨e1, e2⟩ <;> first | (exfalso; omega) | (rw [e2]; first | (rw [show (-5 - 0 : Int) = -5 from rfl, jn_5]; first | rw [if_pos (by omega)] | rw [if_neg (by omega)]) | (rw [show (-5 - 1 : Int) = -6 from rfl, jn_6]; first | rw [if_pos (by omega)] | rw [if_neg (by omega)]) | (rw [show (-5 - 2 : Int) = -7 from rfl, jn_7]; first | rw [if_pos (by omega)] | rw [if_neg (by omega)]))
        · skip
          refine RQ.seg 2 (pc' := 111) (L' := [some (.ref 80), some (.int (iI s1)), some (.int (iI s2)), some (.int (iI v)), some (.int (iI (lkm (lk tp a)))), some (.int (iI z))]) (st' := [.int (iI 1)]) (g1 := (HW sc1 ar 81 oc rl ou tl, q)) rfl ?_
          refine RQ.ret rfl rfl ?_
          rw [show rd tp (m + 1) 8 dp a = rap (rd tp m 2 dp (sk tp a + 1)) (-5 - pcm (lk tp a)) by show rCmp tp (rd tp m) dp a = _; unfold rCmp; rw [if_neg (by omega)]]
          refine ⟨1, sc1, rfl, ⟨fun _ => by omega, by omega, by omega⟩, rfl, hS1, hM1, fun zz st => ?_⟩
          show ev _ ((rd tp m 2 dp (sk tp a + 1)).2.2 ++ [-5 - pcm (lk tp a)]) (v :: st) = 1 :: st
          rw [ev_app, show ev (fun k => ar 84 (kc3 k)) (rd tp m 2 dp (sk tp a + 1)).2.2 (v :: st) = z :: v :: st from hev zz (v :: st), ev_jn (by omega)]
          rcases hpv with ⟨e1, e2⟩ | ⟨e1, e2⟩ | ⟨e1, e2⟩ <;> first | (exfalso; omega) | (rw [e2]; first | (rw [show (-5 - 0 : Int) = -5 from rfl, jn_5]; first | rw [if_pos (by omega)] | rw [if_neg (by omega)]) | (rw [show (-5 - 1 : Int) = -6 from rfl, jn_6]; first | rw [if_pos (by omega)] | rw [if_neg (by omega)]) | (rw [show (-5 - 2 : Int) = -7 from rfl, jn_7]; first | rw [if_pos (by omega)] | rw [if_neg (by omega)]))
    · skip
      refine RQ.seg 2 (pc' := 68) (L' := [some (.ref 80), some (.int (iI s1)), some (.int (iI s2)), some (.int (iI v)), some (.int (iI (lkm (lk tp a)))), some (.int (iI z))]) (st' := [.int (iI z), .int (iI v)]) (g1 := (HW sc1 ar 81 oc rl ou tl, q)) rfl ?_
      refine RQ.if2 (a := v) (b := z) rfl rfl rfl rfl (by omega) (by omega) (fun (h6 : v ≠ z) => ?_) (fun (h6 : ¬ v ≠ z) => ?_)
      · skip
        refine RQ.seg 2 (pc' := 111) (L' := [some (.ref 80), some (.int (iI s1)), some (.int (iI s2)), some (.int (iI v)), some (.int (iI (lkm (lk tp a)))), some (.int (iI z))]) (st' := [.int (iI 0)]) (g1 := (HW sc1 ar 81 oc rl ou tl, q)) rfl ?_
        refine RQ.ret rfl rfl ?_
        rw [show rd tp (m + 1) 8 dp a = rap (rd tp m 2 dp (sk tp a + 1)) (-5 - pcm (lk tp a)) by show rCmp tp (rd tp m) dp a = _; unfold rCmp; rw [if_neg (by omega)]]
        refine ⟨0, sc1, rfl, ⟨fun _ => by omega, by omega, by omega⟩, rfl, hS1, hM1, fun zz st => ?_⟩
        show ev _ ((rd tp m 2 dp (sk tp a + 1)).2.2 ++ [-5 - pcm (lk tp a)]) (v :: st) = 0 :: st
        rw [ev_app, show ev (fun k => ar 84 (kc3 k)) (rd tp m 2 dp (sk tp a + 1)).2.2 (v :: st) = z :: v :: st from hev zz (v :: st), ev_jn (by omega)]
        rcases hpv with ⟨e1, e2⟩ | ⟨e1, e2⟩ | ⟨e1, e2⟩ <;> first | (exfalso; omega) | (rw [e2]; first | (rw [show (-5 - 0 : Int) = -5 from rfl, jn_5]; first | rw [if_pos (by omega)] | rw [if_neg (by omega)]) | (rw [show (-5 - 1 : Int) = -6 from rfl, jn_6]; first | rw [if_pos (by omega)] | rw [if_neg (by omega)]) | (rw [show (-5 - 2 : Int) = -7 from rfl, jn_7]; first | rw [if_pos (by omega)] | rw [if_neg (by omega)]))
      · skip
        refine RQ.seg 2 (pc' := 111) (L' := [some (.ref 80), some (.int (iI s1)), some (.int (iI s2)), some (.int (iI v)), some (.int (iI (lkm (lk tp a)))), some (.int (iI z))]) (st' := [.int (iI 1)]) (g1 := (HW sc1 ar 81 oc rl ou tl, q)) rfl ?_
        refine RQ.ret rfl rfl ?_
        rw [show rd tp (m + 1) 8 dp a = rap (rd tp m 2 dp (sk tp a + 1)) (-5 - pcm (lk tp a)) by show rCmp tp (rd tp m) dp a = _; unfold rCmp; rw [if_neg (by omega)]]
        refine ⟨1, sc1, rfl, ⟨fun _ => by omega, by omega, by omega⟩, rfl, hS1, hM1, fun zz st => ?_⟩
        show ev _ ((rd tp m 2 dp (sk tp a + 1)).2.2 ++ [-5 - pcm (lk tp a)]) (v :: st) = 1 :: st
        rw [ev_app, show ev (fun k => ar 84 (kc3 k)) (rd tp m 2 dp (sk tp a + 1)).2.2 (v :: st) = z :: v :: st from hev zz (v :: st), ev_jn (by omega)]
        rcases hpv with ⟨e1, e2⟩ | ⟨e1, e2⟩ | ⟨e1, e2⟩ <;> first | (exfalso; omega) | (rw [e2]; first | (rw [show (-5 - 0 : Int) = -5 from rfl, jn_5]; first | rw [if_pos (by omega)] | rw [if_neg (by omega)]) | (rw [show (-5 - 1 : Int) = -6 from rfl, jn_6]; first | rw [if_pos (by omega)] | rw [if_neg (by omega)]) | (rw [show (-5 - 2 : Int) = -7 from rfl, jn_7]; first | rw [if_pos (by omega)] | rw [if_neg (by omega)]))
  · skip
    refine RQ.call rfl rfl (CallR.up (d := 1) (m_isSign_f (d := 0) (c := lkm (lk tp a)) (by omega) (by rw [pcm_m]; exact hpa)) (by omega)) ?_
    refine RQ.seg 2 (pc' := 38) (L' := [some (.ref 80), some (.int (iI s1)), some (.int (iI s2)), some (.int (iI v)), some (.int (iI (lkm (lk tp a)))), e5]) (st' := [.ref 80]) (g1 := (HW (usc sc 8010 (sk tp a)) ar 81 oc rl ou tl, q)) rfl ?_
    have hcall := m_fails (K := K) (d := 0) (tx := 81) (oc := oc) (rl := rl) (ou := ou) (tl := tl) (q := q) (sc := usc sc 8010 (sk tp a)) (ar := ar) (by show -1 ≤ sc 8011 ∧ sc 8011 ≤ 200; omega)
    rw [show (if (usc sc 8010 (sk tp a)) 8011 = -1 then (usc sc 8010 (sk tp a)) 8010 else (usc sc 8010 (sk tp a)) 8011) = sk tp a from if_pos hW] at hcall
    refine RQ.call rfl rfl (CallR.up hcall (by omega)) ?_
    refine RQ.ret rfl rfl ?_
    rw [show rd tp (m + 1) 8 dp a = rno tp a by show rCmp tp (rd tp m) dp a = _; unfold rCmp; rw [if_pos (by omega)]]
    exact ⟨0, _, rfl, ⟨fun _ => by omega, by omega, by omega⟩, rfl, (by repeat (first | exact Same.rf | refine Same.us rfl ?_)), ⟨hv, by show 0 ≤ sk tp a ∧ sk tp a ≤ _; omega, rfl, by show -1 ≤ sk tp a ∧ sk tp a ≤ 160; omega, hDp, fun z => absurd (show sk tp a = -1 from z) (by omega)⟩, fun z => absurd (show sk tp a = -1 from z) (by omega)⟩
def ML8_82 (K : PK) (tp : List Int) (bg : Int) (ar : Nat → Int → Int) (m : Nat) : Prop := ∀ (D u : Nat) (dp a v s1 s2 : Int) (e4 e5 : Option Value) (sc : Nat → Int) (oc : Nat) (rl : Nat → Option Nat) (ou : Nat → Int64) (tl : List PO) (q : Nat × Nat), dp + u = 6 → 0 ≤ dp → 6 * u + 8 ≤ D → MX tp bg 640 (-1, a, []) dp sc (ar 82) → Fu tp m 8 a → (-1000000 ≤ v ∧ v ≤ 1000000) → RQ K D 11 false (some .boolean) cd167 13 [some (.ref 80), some (.int (iI s1)), some (.int (iI s2)), some (.int (iI v)), e4, e5] [] (HW sc ar 82 oc rl ou tl, q) (QM tp bg 640 82 8 (rd tp m 8 dp a) dp [v] sc ar oc rl ou tl q)
theorem ml82_8 {K : PK} {tp : List Int} {bg : Int} {ar : Nat → Int → Int} (ht : TpOK tp) {m : Nat} (p2 : MC K tp bg 640 82 ar m 2 165 7 [] []) : ML8_82 K tp bg ar (m + 1) := by
  intro D u dp a v s1 s2 e4 e5 sc oc rl ou tl q hdu hdp hD hM hF rv
  have ht1 := ht.1
  obtain ⟨hv, hA, hW, hWr, hDp, hG⟩ := id hM
  obtain ⟨g1, g2⟩ := hG rfl
  replace g1 : sc 8010 = a := g1
  replace hW : sc 8011 = -1 := hW
  have hFu : 16 * ((tp.length : Int) - a) + 1 ≤ ((m + 1 : Nat) : Int) := hF
  have hsk := sk_r (tp := tp) (p := a) (by omega)
  have hlk : 0 ≤ lk tp a ∧ lk tp a ≤ 255 := tch_r ht (sk tp a)
  have hlm := lkm_r hlk
  refine RQ.seg 3 (pc' := 18) (L' := [some (.ref 80), some (.int (iI s1)), some (.int (iI s2)), some (.int (iI v)), e4, e5]) (st' := [.int (iI (-1)), .int (iI (sc 8011))]) (g1 := (HW sc ar 82 oc rl ou tl, q)) rfl ?_
  refine RQ.if2 (a := (sc 8011)) (b := (-1)) rfl rfl rfl rfl (by omega) (by omega) (fun _ => ?_) (fun (q : ¬ sc 8011 = (-1)) => absurd (show sc 8011 = (-1) from by omega) q)
  refine RQ.seg 1 (pc' := 24) (L' := [some (.ref 80), some (.int (iI s1)), some (.int (iI s2)), some (.int (iI v)), e4, e5]) (st' := [.ref 80]) (g1 := (HW sc ar 82 oc rl ou tl, q)) rfl ?_
  refine RQ.call rfl rfl (CallR.up (d := 1) (m_look82 (d := 0) (sc := sc) (ar := ar) (a := a) ht hv g1 (by omega)) (by omega)) ?_
  refine RQ.seg 2 (pc' := 31) (L' := [some (.ref 80), some (.int (iI s1)), some (.int (iI s2)), some (.int (iI v)), some (.int (iI (lkm (lk tp a)))), e5]) (st' := [.int (iI (lkm (lk tp a)))]) (g1 := (HW (usc sc 8010 (sk tp a)) ar 82 oc rl ou tl, q)) rfl ?_
  rcases Decidable.em (pcm (lk tp a) ≠ -1) with hpa | hpa
  · skip
    have hpv := pcm_v hpa
    have hlc : lkm (lk tp a) = lk tp a := hlm.2.2.2.1 (by omega)
    have hps := lk_in (tp := tp) (a := a) (by omega) (by omega)
    refine RQ.call rfl rfl (CallR.up (d := 1) (m_isSign_t (d := 0) (c := lkm (lk tp a)) (by omega) (by rw [pcm_m]; exact hpa)) (by omega)) ?_
    refine RQ.seg 6 (pc' := 49) (L' := [some (.ref 80), some (.int (iI s1)), some (.int (iI s2)), some (.int (iI v)), some (.int (iI (lkm (lk tp a)))), e5]) (st' := [.int ((iI (sk tp a)) + (iI 1)), .ref 80]) (g1 := (HW (usc sc 8010 (sk tp a)) ar 82 oc rl ou tl, q)) rfl ?_
    refine RQ.to (L' := [some (.ref 80), some (.int (iI s1)), some (.int (iI s2)), some (.int (iI v)), some (.int (iI (lkm (lk tp a)))), e5]) (st' := [.int (iI (sk tp a + 1)), .ref 80]) rfl (by simp only [iI_add, iI_sub, iI_mul, iI_neg]) ?_
    refine RQ.seg 2 (pc' := 53) (L' := [some (.ref 80), some (.int (iI s1)), some (.int (iI s2)), some (.int (iI v)), some (.int (iI (lkm (lk tp a)))), e5]) (st' := [.ref 80]) (g1 := (HW (usc sc 8010 (sk tp a + 1)) ar 82 oc rl ou tl, q)) rfl ?_
    refine RQ.callQ rfl rfl (CQ.up (p2 (D - 1) u dp (sk tp a + 1) (usc sc 8010 (sk tp a + 1)) oc rl ou tl q hdu hdp (by omega) ⟨hv, by show 0 ≤ sk tp a + 1 ∧ sk tp a + 1 ≤ _; omega, hW, hWr, hDp, fun _ => ⟨rfl, g2⟩⟩ (by show 16 * ((tp.length : Int) - (sk tp a + 1)) + 3 ≤ (m : Int); omega)) (by omega)) (fun rv9 g9 hc9 => ?_)
    obtain ⟨z, sc1, rfl, hz, rfl, hs1, hM1, hev⟩ := hc9
    have hz1 := hz.2
    have hS1 : Same muF sc sc1 := Same.tr (by repeat (first | exact Same.rf | refine Same.us rfl ?_)) hs1
    refine RQ.seg 3 (pc' := 62) (L' := [some (.ref 80), some (.int (iI s1)), some (.int (iI s2)), some (.int (iI v)), some (.int (iI (lkm (lk tp a)))), some (.int (iI z))]) (st' := [.int (iI 61), .int (iI (lkm (lk tp a)))]) (g1 := (HW sc1 ar 82 oc rl ou tl, q)) rfl ?_
    refine RQ.if2 (a := (lkm (lk tp a))) (b := 61) rfl rfl rfl rfl (by omega) (by omega) (fun (h2 : lkm (lk tp a) ≠ 61) => ?_) (fun (h2 : ¬ lkm (lk tp a) ≠ 61) => ?_)
    · skip
      refine RQ.seg 2 (pc' := 83) (L' := [some (.ref 80), some (.int (iI s1)), some (.int (iI s2)), some (.int (iI v)), some (.int (iI (lkm (lk tp a)))), some (.int (iI z))]) (st' := [.int (iI 60), .int (iI (lkm (lk tp a)))]) (g1 := (HW sc1 ar 82 oc rl ou tl, q)) rfl ?_
      refine RQ.if2 (a := (lkm (lk tp a))) (b := 60) rfl rfl rfl rfl (by omega) (by omega) (fun (h3 : lkm (lk tp a) ≠ 60) => ?_) (fun (h3 : ¬ lkm (lk tp a) ≠ 60) => ?_)
      · skip
        refine RQ.seg 2 (pc' := 103) (L' := [some (.ref 80), some (.int (iI s1)), some (.int (iI s2)), some (.int (iI v)), some (.int (iI (lkm (lk tp a)))), some (.int (iI z))]) (st' := [.int (iI z), .int (iI v)]) (g1 := (HW sc1 ar 82 oc rl ou tl, q)) rfl ?_
        refine RQ.if2 (a := v) (b := z) rfl rfl rfl rfl (by omega) (by omega) (fun (h4 : v ≤ z) => ?_) (fun (h4 : ¬ v ≤ z) => ?_)
        · skip
          refine RQ.seg 1 (pc' := 111) (L' := [some (.ref 80), some (.int (iI s1)), some (.int (iI s2)), some (.int (iI v)), some (.int (iI (lkm (lk tp a)))), some (.int (iI z))]) (st' := [.int (iI 0)]) (g1 := (HW sc1 ar 82 oc rl ou tl, q)) rfl ?_
          refine RQ.ret rfl rfl ?_
          rw [show rd tp (m + 1) 8 dp a = rap (rd tp m 2 dp (sk tp a + 1)) (-5 - pcm (lk tp a)) by show rCmp tp (rd tp m) dp a = _; unfold rCmp; rw [if_neg (by omega)]]
          refine ⟨0, sc1, rfl, ⟨fun _ => by omega, by omega, by omega⟩, rfl, hS1, hM1, fun zz st => ?_⟩
          show ev _ ((rd tp m 2 dp (sk tp a + 1)).2.2 ++ [-5 - pcm (lk tp a)]) (v :: st) = 0 :: st
          rw [ev_app, show ev (fun k => ar 84 (kc3 k)) (rd tp m 2 dp (sk tp a + 1)).2.2 (v :: st) = z :: v :: st from hev zz (v :: st), ev_jn (by omega)]
          rcases hpv with ⟨e1, e2⟩ | ⟨e1, e2⟩ | ⟨e1, e2⟩ <;> first | (exfalso; omega) | (rw [e2]; first | (rw [show (-5 - 0 : Int) = -5 from rfl, jn_5]; first | rw [if_pos (by omega)] | rw [if_neg (by omega)]) | (rw [show (-5 - 1 : Int) = -6 from rfl, jn_6]; first | rw [if_pos (by omega)] | rw [if_neg (by omega)]) | (rw [show (-5 - 2 : Int) = -7 from rfl, jn_7]; first | rw [if_pos (by omega)] | rw [if_neg (by omega)]))
        · skip
          refine RQ.seg 2 (pc' := 111) (L' := [some (.ref 80), some (.int (iI s1)), some (.int (iI s2)), some (.int (iI v)), some (.int (iI (lkm (lk tp a)))), some (.int (iI z))]) (st' := [.int (iI 1)]) (g1 := (HW sc1 ar 82 oc rl ou tl, q)) rfl ?_
          refine RQ.ret rfl rfl ?_
          rw [show rd tp (m + 1) 8 dp a = rap (rd tp m 2 dp (sk tp a + 1)) (-5 - pcm (lk tp a)) by show rCmp tp (rd tp m) dp a = _; unfold rCmp; rw [if_neg (by omega)]]
          refine ⟨1, sc1, rfl, ⟨fun _ => by omega, by omega, by omega⟩, rfl, hS1, hM1, fun zz st => ?_⟩
          show ev _ ((rd tp m 2 dp (sk tp a + 1)).2.2 ++ [-5 - pcm (lk tp a)]) (v :: st) = 1 :: st
          rw [ev_app, show ev (fun k => ar 84 (kc3 k)) (rd tp m 2 dp (sk tp a + 1)).2.2 (v :: st) = z :: v :: st from hev zz (v :: st), ev_jn (by omega)]
          rcases hpv with ⟨e1, e2⟩ | ⟨e1, e2⟩ | ⟨e1, e2⟩ <;> first | (exfalso; omega) | (rw [e2]; first | (rw [show (-5 - 0 : Int) = -5 from rfl, jn_5]; first | rw [if_pos (by omega)] | rw [if_neg (by omega)]) | (rw [show (-5 - 1 : Int) = -6 from rfl, jn_6]; first | rw [if_pos (by omega)] | rw [if_neg (by omega)]) | (rw [show (-5 - 2 : Int) = -7 from rfl, jn_7]; first | rw [if_pos (by omega)] | rw [if_neg (by omega)]))
      · skip
        refine RQ.seg 2 (pc' := 89) (L' := [some (.ref 80), some (.int (iI s1)), some (.int (iI s2)), some (.int (iI v)), some (.int (iI (lkm (lk tp a)))), some (.int (iI z))]) (st' := [.int (iI z), .int (iI v)]) (g1 := (HW sc1 ar 82 oc rl ou tl, q)) rfl ?_
        refine RQ.if2 (a := v) (b := z) rfl rfl rfl rfl (by omega) (by omega) (fun (h5 : z ≤ v) => ?_) (fun (h5 : ¬ z ≤ v) => ?_)
        · skip
          refine RQ.seg 2 (pc' := 111) (L' := [some (.ref 80), some (.int (iI s1)), some (.int (iI s2)), some (.int (iI v)), some (.int (iI (lkm (lk tp a)))), some (.int (iI z))]) (st' := [.int (iI 0)]) (g1 := (HW sc1 ar 82 oc rl ou tl, q)) rfl ?_
          refine RQ.ret rfl rfl ?_
          rw [show rd tp (m + 1) 8 dp a = rap (rd tp m 2 dp (sk tp a + 1)) (-5 - pcm (lk tp a)) by show rCmp tp (rd tp m) dp a = _; unfold rCmp; rw [if_neg (by omega)]]
          refine ⟨0, sc1, rfl, ⟨fun _ => by omega, by omega, by omega⟩, rfl, hS1, hM1, fun zz st => ?_⟩
          show ev _ ((rd tp m 2 dp (sk tp a + 1)).2.2 ++ [-5 - pcm (lk tp a)]) (v :: st) = 0 :: st
          rw [ev_app, show ev (fun k => ar 84 (kc3 k)) (rd tp m 2 dp (sk tp a + 1)).2.2 (v :: st) = z :: v :: st from hev zz (v :: st), ev_jn (by omega)]
          rcases hpv with ⟨e1, e2⟩ | ⟨e1, e2⟩ | ⟨e1, e2⟩ <;> first | (exfalso; omega) | (rw [e2]; first | (rw [show (-5 - 0 : Int) = -5 from rfl, jn_5]; first | rw [if_pos (by omega)] | rw [if_neg (by omega)]) | (rw [show (-5 - 1 : Int) = -6 from rfl, jn_6]; first | rw [if_pos (by omega)] | rw [if_neg (by omega)]) | (rw [show (-5 - 2 : Int) = -7 from rfl, jn_7]; first | rw [if_pos (by omega)] | rw [if_neg (by omega)]))
        · skip
          refine RQ.seg 2 (pc' := 111) (L' := [some (.ref 80), some (.int (iI s1)), some (.int (iI s2)), some (.int (iI v)), some (.int (iI (lkm (lk tp a)))), some (.int (iI z))]) (st' := [.int (iI 1)]) (g1 := (HW sc1 ar 82 oc rl ou tl, q)) rfl ?_
          refine RQ.ret rfl rfl ?_
          rw [show rd tp (m + 1) 8 dp a = rap (rd tp m 2 dp (sk tp a + 1)) (-5 - pcm (lk tp a)) by show rCmp tp (rd tp m) dp a = _; unfold rCmp; rw [if_neg (by omega)]]
          refine ⟨1, sc1, rfl, ⟨fun _ => by omega, by omega, by omega⟩, rfl, hS1, hM1, fun zz st => ?_⟩
          show ev _ ((rd tp m 2 dp (sk tp a + 1)).2.2 ++ [-5 - pcm (lk tp a)]) (v :: st) = 1 :: st
          rw [ev_app, show ev (fun k => ar 84 (kc3 k)) (rd tp m 2 dp (sk tp a + 1)).2.2 (v :: st) = z :: v :: st from hev zz (v :: st), ev_jn (by omega)]
          rcases hpv with ⟨e1, e2⟩ | ⟨e1, e2⟩ | ⟨e1, e2⟩ <;> first | (exfalso; omega) | (rw [e2]; first | (rw [show (-5 - 0 : Int) = -5 from rfl, jn_5]; first | rw [if_pos (by omega)] | rw [if_neg (by omega)]) | (rw [show (-5 - 1 : Int) = -6 from rfl, jn_6]; first | rw [if_pos (by omega)] | rw [if_neg (by omega)]) | (rw [show (-5 - 2 : Int) = -7 from rfl, jn_7]; first | rw [if_pos (by omega)] | rw [if_neg (by omega)]))
    · skip
      refine RQ.seg 2 (pc' := 68) (L' := [some (.ref 80), some (.int (iI s1)), some (.int (iI s2)), some (.int (iI v)), some (.int (iI (lkm (lk tp a)))), some (.int (iI z))]) (st' := [.int (iI z), .int (iI v)]) (g1 := (HW sc1 ar 82 oc rl ou tl, q)) rfl ?_
      refine RQ.if2 (a := v) (b := z) rfl rfl rfl rfl (by omega) (by omega) (fun (h6 : v ≠ z) => ?_) (fun (h6 : ¬ v ≠ z) => ?_)
      · skip
        refine RQ.seg 2 (pc' := 111) (L' := [some (.ref 80), some (.int (iI s1)), some (.int (iI s2)), some (.int (iI v)), some (.int (iI (lkm (lk tp a)))), some (.int (iI z))]) (st' := [.int (iI 0)]) (g1 := (HW sc1 ar 82 oc rl ou tl, q)) rfl ?_
        refine RQ.ret rfl rfl ?_
        rw [show rd tp (m + 1) 8 dp a = rap (rd tp m 2 dp (sk tp a + 1)) (-5 - pcm (lk tp a)) by show rCmp tp (rd tp m) dp a = _; unfold rCmp; rw [if_neg (by omega)]]
        refine ⟨0, sc1, rfl, ⟨fun _ => by omega, by omega, by omega⟩, rfl, hS1, hM1, fun zz st => ?_⟩
        show ev _ ((rd tp m 2 dp (sk tp a + 1)).2.2 ++ [-5 - pcm (lk tp a)]) (v :: st) = 0 :: st
        rw [ev_app, show ev (fun k => ar 84 (kc3 k)) (rd tp m 2 dp (sk tp a + 1)).2.2 (v :: st) = z :: v :: st from hev zz (v :: st), ev_jn (by omega)]
        rcases hpv with ⟨e1, e2⟩ | ⟨e1, e2⟩ | ⟨e1, e2⟩ <;> first | (exfalso; omega) | (rw [e2]; first | (rw [show (-5 - 0 : Int) = -5 from rfl, jn_5]; first | rw [if_pos (by omega)] | rw [if_neg (by omega)]) | (rw [show (-5 - 1 : Int) = -6 from rfl, jn_6]; first | rw [if_pos (by omega)] | rw [if_neg (by omega)]) | (rw [show (-5 - 2 : Int) = -7 from rfl, jn_7]; first | rw [if_pos (by omega)] | rw [if_neg (by omega)]))
      · skip
        refine RQ.seg 2 (pc' := 111) (L' := [some (.ref 80), some (.int (iI s1)), some (.int (iI s2)), some (.int (iI v)), some (.int (iI (lkm (lk tp a)))), some (.int (iI z))]) (st' := [.int (iI 1)]) (g1 := (HW sc1 ar 82 oc rl ou tl, q)) rfl ?_
        refine RQ.ret rfl rfl ?_
        rw [show rd tp (m + 1) 8 dp a = rap (rd tp m 2 dp (sk tp a + 1)) (-5 - pcm (lk tp a)) by show rCmp tp (rd tp m) dp a = _; unfold rCmp; rw [if_neg (by omega)]]
        refine ⟨1, sc1, rfl, ⟨fun _ => by omega, by omega, by omega⟩, rfl, hS1, hM1, fun zz st => ?_⟩
        show ev _ ((rd tp m 2 dp (sk tp a + 1)).2.2 ++ [-5 - pcm (lk tp a)]) (v :: st) = 1 :: st
        rw [ev_app, show ev (fun k => ar 84 (kc3 k)) (rd tp m 2 dp (sk tp a + 1)).2.2 (v :: st) = z :: v :: st from hev zz (v :: st), ev_jn (by omega)]
        rcases hpv with ⟨e1, e2⟩ | ⟨e1, e2⟩ | ⟨e1, e2⟩ <;> first | (exfalso; omega) | (rw [e2]; first | (rw [show (-5 - 0 : Int) = -5 from rfl, jn_5]; first | rw [if_pos (by omega)] | rw [if_neg (by omega)]) | (rw [show (-5 - 1 : Int) = -6 from rfl, jn_6]; first | rw [if_pos (by omega)] | rw [if_neg (by omega)]) | (rw [show (-5 - 2 : Int) = -7 from rfl, jn_7]; first | rw [if_pos (by omega)] | rw [if_neg (by omega)]))
  · skip
    refine RQ.call rfl rfl (CallR.up (d := 1) (m_isSign_f (d := 0) (c := lkm (lk tp a)) (by omega) (by rw [pcm_m]; exact hpa)) (by omega)) ?_
    refine RQ.seg 2 (pc' := 38) (L' := [some (.ref 80), some (.int (iI s1)), some (.int (iI s2)), some (.int (iI v)), some (.int (iI (lkm (lk tp a)))), e5]) (st' := [.ref 80]) (g1 := (HW (usc sc 8010 (sk tp a)) ar 82 oc rl ou tl, q)) rfl ?_
    have hcall := m_fails (K := K) (d := 0) (tx := 82) (oc := oc) (rl := rl) (ou := ou) (tl := tl) (q := q) (sc := usc sc 8010 (sk tp a)) (ar := ar) (by show -1 ≤ sc 8011 ∧ sc 8011 ≤ 200; omega)
    rw [show (if (usc sc 8010 (sk tp a)) 8011 = -1 then (usc sc 8010 (sk tp a)) 8010 else (usc sc 8010 (sk tp a)) 8011) = sk tp a from if_pos hW] at hcall
    refine RQ.call rfl rfl (CallR.up hcall (by omega)) ?_
    refine RQ.ret rfl rfl ?_
    rw [show rd tp (m + 1) 8 dp a = rno tp a by show rCmp tp (rd tp m) dp a = _; unfold rCmp; rw [if_pos (by omega)]]
    exact ⟨0, _, rfl, ⟨fun _ => by omega, by omega, by omega⟩, rfl, (by repeat (first | exact Same.rf | refine Same.us rfl ?_)), ⟨hv, by show 0 ≤ sk tp a ∧ sk tp a ≤ _; omega, rfl, by show -1 ≤ sk tp a ∧ sk tp a ≤ 160; omega, hDp, fun z => absurd (show sk tp a = -1 from z) (by omega)⟩, fun z => absurd (show sk tp a = -1 from z) (by omega)⟩
