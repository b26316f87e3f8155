/-! the reference reads a front, by wip/tools -/
/-! the reference reads a front -/
def frS : List Nat := [8010, 8011, 8026, 8027, 8028]
def FdM (S : FS) (sc : Nat → Int) (ar : Nat → Int → Int) : Prop := sc 8010 = fA S ∧ sc 8028 = fL S ∧ sc 8026 = fW S ∧ sc 8027 = fB S ∧ (∀ w j, 0 ≤ w → w < fW S → 0 ≤ j → j < 4 → ar 88 (4 * w + j) = gW S w j) ∧ (∀ b j, 0 ≤ b → b < fB S → 0 ≤ j → j < 3 → ar 89 (3 * b + j) = gB S b j) ∧ (∀ j, 0 ≤ j → j < 4 → ar 90 j = gL S j)
theorem bit_no {t i : Int} (h : ¬ t / 2 ^ i.toNat % 2 = 1) : t / 2 ^ i.toNat % 2 = 0 := by omega
theorem m_itw_l {K : PK} {d : Nat} {sc : Nat → Int} {ar : Nat → Int → Int} {oc : Nat} {rl : Nat → Option Nat} {ou : Nat → Int64} {tl : List PO} {q : Nat × Nat} {Q : Option Value → PG → Prop} {tp : List Int} {bg : Int} (ht : TpOK tp) (hv : TvM tp bg 160 (sc 8008) (sc 8009) (ar 81)) {c ro : Int} {f0 : Int → Int} (hc : c = 119) (hro : 0 ≤ ro ∧ ro + 4 ≤ 16) : ∀ (m : Nat) (t a : Int) (f v : Int → Int) (hm : pc4 t + m = 5) (htr : 0 ≤ t ∧ t < 16) (ha : 0 ≤ a ∧ a ≤ (tp.length : Int)) (hf : ∀ j, 0 ≤ j → j < 4 → f (ro + j) = v j) (hf0 : ∀ i, i < ro ∨ ro + 4 ≤ i → f i = f0 i) (hk : ∀ a' w' f', (-1 ≤ w' ∧ w' ≤ 160) → (0 ≤ a' ∧ a' ≤ (tp.length : Int)) → w' = (its pw kc6 kc7 tp m t a v).1 → ((its pw kc6 kc7 tp m t a v).1 = -1 → a' = (its pw kc6 kc7 tp m t a v).2.1 ∧ ∀ j, 0 ≤ j → j < 4 → f' (ro + j) = (its pw kc6 kc7 tp m t a v).2.2 j) → (∀ i, i < ro ∨ ro + 4 ≤ i → f' i = f0 i) → Q none (HW (usc (usc sc 8010 a') 8011 w') (usc ar 88 f') 81 oc rl ou tl, q)), RQ K (d + 5) 11 false none cd180 254 [some (.ref 80), some (.int (iI c)), some (.int (iI 1)), some (.int (iI ro)), some (.ref 88), some (.retAddr 22), some (.int (iI t)), some (.int (iI (pw (lk tp a))))] [] (HW (usc (usc sc 8010 (sk tp a)) 8011 (-1)) (usc ar 88 f) 81 oc rl ou tl, q) Q
  | 0, t, a, f, v, hm, htr, ha, hf, hf0, hk => by exfalso; unfold pc4 at hm; omega
  | m + 1, t, a, f, v, hm, htr, ha, hf, hf0, hk => by
    have ht1 := ht.1
    obtain ⟨hv1, hv2, hv3, hv4⟩ := id hv
    have hsk := sk_r (tp := tp) ha.2
    have hlr := tch_r ht (sk tp a)
    have hlk : 0 ≤ lk tp a ∧ lk tp a ≤ 255 := hlr
    have hpr := pw_r (lk tp a)
    have hkr : lk tp a ≠ 0 → 0 ≤ sk tp a ∧ sk tp a < (tp.length : Int) := fun z => tch_pos z
    have hkA := kr6 (pw (lk tp a))
    have hkB := kr7 (pw (lk tp a))
    refine RQ.seg 2 (pc' := 257) (L' := [some (.ref 80), some (.int (iI c)), some (.int (iI 1)), some (.int (iI ro)), some (.ref 88), some (.retAddr 22), some (.int (iI t)), some (.int (iI (pw (lk tp a))))]) (st' := [.int (iI (-1)), .int (iI (pw (lk tp a)))]) (g1 := (HW (usc (usc sc 8010 (sk tp a)) 8011 (-1)) (usc ar 88 f) 81 oc rl ou tl, q)) rfl ?_
    refine RQ.if2 (a := (pw (lk tp a))) (b := (-1)) rfl rfl rfl rfl (by omega) (by omega) (fun (h1 : pw (lk tp a) = (-1)) => ?_) (fun (h1 : ¬ pw (lk tp a) = (-1)) => ?_)
    · skip
      refine RQ.ret rfl rfl ?_
      rw [its, if_pos (by omega)] at hk
      exact hk _ _ _ (by omega) (by omega) rfl (fun _ => ⟨rfl, hf⟩) hf0
    · skip
      refine RQ.seg 3 (pc' := 265) (L' := [some (.ref 80), some (.int (iI c)), some (.int (iI 1)), some (.int (iI ro)), some (.ref 88), some (.retAddr 22), some (.int (iI t)), some (.int (iI (pw (lk tp a))))]) (st' := [.int (iI (-1)), .int (iI (-1))]) (g1 := (HW (usc (usc sc 8010 (sk tp a)) 8011 (-1)) (usc ar 88 f) 81 oc rl ou tl, q)) rfl ?_
      refine RQ.if2 (a := (-1)) (b := (-1)) rfl rfl rfl rfl (by omega) (by omega) (fun (q : (-1) ≠ (-1)) => absurd q (show ¬ (-1) ≠ (-1) from by omega)) (fun _ => ?_)
      refine RQ.seg 2 (pc' := 272) (L' := [some (.ref 80), some (.int (iI c)), some (.int (iI 1)), some (.int (iI ro)), some (.ref 88), some (.retAddr 22), some (.int (iI t)), some (.int (iI (pw (lk tp a))))]) (st' := [.int (iI (pw (lk tp a))), .int (iI t)]) (g1 := (HW (usc (usc sc 8010 (sk tp a)) 8011 (-1)) (usc ar 88 f) 81 oc rl ou tl, q)) rfl ?_
      have hkq := hkr (hpr.2.2 (by omega))
      rcases Decidable.em (t / 2 ^ (pw (lk tp a)).toNat % 2 = 1) with hbt | hbt
      · skip
        refine RQ.call rfl rfl (CallR.up (d := 1) (m_has_t (d := 0) (by omega) (by omega) hbt) (by omega)) ?_
        refine RQ.seg 2 (pc' := 279) (L' := [some (.ref 80), some (.int (iI c)), some (.int (iI 1)), some (.int (iI ro)), some (.ref 88), some (.retAddr 22), some (.int (iI t)), some (.int (iI (pw (lk tp a))))]) (st' := [.ref 80]) (g1 := (HW (usc (usc sc 8010 (sk tp a)) 8011 (-1)) (usc ar 88 f) 81 oc rl ou tl, q)) rfl ?_
        have hcall := CallR.up (d' := d + 5) (m_fails (K := K) (d := 0) (tx := 81) (oc := oc) (rl := rl) (ou := ou) (tl := tl) (q := q) (sc := usc (usc sc 8010 (sk tp a)) 8011 (-1)) (ar := usc ar 88 f) (by show -1 ≤ (-1 : Int) ∧ (-1 : Int) ≤ 200; omega)) (by omega)
        rw [show (if (usc (usc sc 8010 (sk tp a)) 8011 (-1)) 8011 = -1 then (usc (usc sc 8010 (sk tp a)) 8011 (-1)) 8010 else (usc (usc sc 8010 (sk tp a)) 8011 (-1)) 8011) = sk tp a from if_pos rfl] at hcall
        refine RQ.call rfl rfl hcall ?_
        refine RQ.hp (g1 := (HW (usc (usc sc 8010 (sk tp a)) 8011 (sk tp a)) (usc ar 88 f) 81 oc rl ou tl, q)) (HW_e (by rw [usc_uu _ 8011 _ _]; try rfl) rfl) ?_
        refine RQ.seg 1 (pc' := 283) (L' := [some (.ref 80), some (.int (iI c)), some (.int (iI 1)), some (.int (iI ro)), some (.ref 88), some (.retAddr 22), some (.int (iI t)), some (.int (iI (pw (lk tp a))))]) (st' := []) (g1 := (HW (usc (usc sc 8010 (sk tp a)) 8011 (sk tp a)) (usc ar 88 f) 81 oc rl ou tl, q)) rfl ?_
        refine RQ.ret rfl rfl ?_
        rw [its, if_neg (by omega), if_pos hbt] at hk
        exact hk _ _ _ (by omega) (by omega) rfl (fun z9 => absurd (show sk tp a = -1 from z9) (by omega)) hf0
      · skip
        have hor := orz4 (t := t) (i := pw (lk tp a)) (by omega) (by omega) hbt
        have hir := itR_r (tp := tp) (lo := kc6 (pw (lk tp a))) (hi := kc7 (pw (lk tp a))) (a := sk tp a + 1) (by omega)
        refine RQ.call rfl rfl (CallR.up (d := 1) (m_has_f (d := 0) (by omega) (by omega) (fun z9 => hbt z9)) (by omega)) ?_
        refine RQ.seg 4 (pc' := 289) (L' := [some (.ref 80), some (.int (iI c)), some (.int (iI 1)), some (.int (iI ro)), some (.ref 88), some (.retAddr 22), some (.int (iI t)), some (.int (iI (pw (lk tp a))))]) (st' := [.int (iI (pw (lk tp a))), .int (iI 1), .int (iI t)]) (g1 := (HW (usc (usc sc 8010 (sk tp a)) 8011 (-1)) (usc ar 88 f) 81 oc rl ou tl, q)) rfl ?_
        refine RQ.ishl1 (b := (pw (lk tp a))) rfl rfl rfl (by omega) ?_
        refine RQ.ior (a := t) (b := (pw (lk tp a))) rfl rfl rfl (by omega) (by omega) ?_
        refine RQ.seg 8 (pc' := 303) (L' := [some (.ref 80), some (.int (iI c)), some (.int (iI 1)), some (.int (iI ro)), some (.ref 88), some (.retAddr 22), some (.int (iI (orz t (pw (lk tp a))))), some (.int (iI (pw (lk tp a))))]) (st' := [.int (iI (pw (lk tp a))), .int (iI c), .int ((iI ro) + (iI (pw (lk tp a)))), .ref 88, .ref 80]) (g1 := (HW (usc (usc sc 8010 (sk tp a)) 8011 (-1)) (usc ar 88 f) 81 oc rl ou tl, q)) rfl ?_
        refine RQ.to (L' := [some (.ref 80), some (.int (iI c)), some (.int (iI 1)), some (.int (iI ro)), some (.ref 88), some (.retAddr 22), some (.int (iI (orz t (pw (lk tp a))))), some (.int (iI (pw (lk tp a))))]) (st' := [.int (iI (pw (lk tp a))), .int (iI c), .int (iI (ro + (pw (lk tp a)))), .ref 88, .ref 80]) rfl (by simp only [iI_add, iI_sub, iI_mul, iI_neg]) ?_
        refine RQ.call rfl rfl (CallR.up (d := 1) (m_least_w (d := 0) (c := c) (j := pw (lk tp a)) hc (by omega)) (by omega)) ?_
        refine RQ.seg 2 (pc' := 309) (L' := [some (.ref 80), some (.int (iI c)), some (.int (iI 1)), some (.int (iI ro)), some (.ref 88), some (.retAddr 22), some (.int (iI (orz t (pw (lk tp a))))), some (.int (iI (pw (lk tp a))))]) (st' := [.int (iI (pw (lk tp a))), .int (iI c), .int (iI (kc6 (pw (lk tp a)))), .int (iI (ro + (pw (lk tp a)))), .ref 88, .ref 80]) (g1 := (HW (usc (usc sc 8010 (sk tp a)) 8011 (-1)) (usc ar 88 f) 81 oc rl ou tl, q)) rfl ?_
        refine RQ.call rfl rfl (CallR.up (d := 1) (m_most_w (d := 0) (c := c) (j := pw (lk tp a)) hc (by omega)) (by omega)) ?_
        refine RQ.callQ rfl rfl ((m_item88 (d := 0) (sc := usc (usc sc 8010 (sk tp a)) 8011 (-1)) (ar := usc ar 88 f) (a := sk tp a) (pl0 := ro + pw (lk tp a)) (lo := kc6 (pw (lk tp a))) (hi := kc7 (pw (lk tp a))) ht hv rfl (by omega) rfl (by omega) (by omega) (by omega)).up (by omega)) (fun rv g1 hc => ?_)
        obtain ⟨rfl, a1, f1, rfl, ra1, hg1, hg2⟩ := hc
        refine RQ.hp (g1 := (HW (usc (usc sc 8010 a1) 8011 ((itR tp (kc6 (pw (lk tp a))) (kc7 (pw (lk tp a))) (sk tp a + 1)).1)) (usc ar 88 f1) 81 oc rl ou tl, q)) (HW_e (by rw [usc_sw _ 8011 8010 _ _ rfl, usc_uu _ 8010 _ _, usc_uu _ 8011 _ _]; try rfl) (by rw [usc_uu _ 88 _ _]; try rfl)) ?_
        rcases Decidable.em ((itR tp (kc6 (pw (lk tp a))) (kc7 (pw (lk tp a))) (sk tp a + 1)).1 = -1) with hq | hq
        · obtain ⟨ea1, ef1⟩ := hg1 hq
          rw [hq]
          rw [its, if_neg (by omega), if_neg hbt, if_neg (by omega)] at hk
          refine RQ.seg 3 (pc' := 320) (L' := [some (.ref 80), some (.int (iI c)), some (.int (iI 1)), some (.int (iI ro)), some (.ref 88), some (.retAddr 22), some (.int (iI (orz t (pw (lk tp a))))), some (.int (iI (pw (lk tp a))))]) (st' := [.int (iI (-1)), .int (iI (-1))]) (g1 := (HW (usc (usc sc 8010 a1) 8011 (-1)) (usc ar 88 f1) 81 oc rl ou tl, q)) rfl ?_
          refine RQ.if2 (a := (-1)) (b := (-1)) rfl rfl rfl rfl (by omega) (by omega) (fun (q : (-1) ≠ (-1)) => absurd q (show ¬ (-1) ≠ (-1) from by omega)) (fun _ => ?_)
          refine RQ.seg 2 (pc' := 326) (L' := [some (.ref 80), some (.int (iI c)), some (.int (iI 1)), some (.int (iI ro)), some (.ref 88), some (.retAddr 22), some (.int (iI (orz t (pw (lk tp a))))), some (.int (iI (pw (lk tp a))))]) (st' := [.ref 80, .retAddr 22]) (g1 := (HW (usc (usc sc 8010 a1) 8011 (-1)) (usc ar 88 f1) 81 oc rl ou tl, q)) rfl ?_
          have hlr1 := tch_r ht (sk tp a1)
          have hlk1 : 0 ≤ lk tp a1 ∧ lk tp a1 ≤ 255 := hlr1
          have hlm1 := lkm_r hlk1
          refine RQ.call rfl rfl (CallR.up (d := 1) (m_look81 (d := 0) (sc := usc (usc sc 8010 a1) 8011 (-1)) (ar := usc ar 88 f1) (a := a1) ht hv rfl ra1) (by omega)) ?_
          refine RQ.hp (g1 := (HW (usc (usc sc 8010 (sk tp a1)) 8011 (-1)) (usc ar 88 f1) 81 oc rl ou tl, q)) (HW_e (by rw [usc_sw _ 8011 8010 _ _ rfl, usc_uu _ 8010 _ _]; try rfl) rfl) ?_
          refine RQ.call rfl rfl (CallR.up (d := 5) (m_place_pw (d := 0) (c := lkm (lk tp a1)) (by omega)) (by omega)) ?_
          rw [pw_m]
          refine RQ.seg 2 (pc' := 254) (L' := [some (.ref 80), some (.int (iI c)), some (.int (iI 1)), some (.int (iI ro)), some (.ref 88), some (.retAddr 22), some (.int (iI (orz t (pw (lk tp a))))), some (.int (iI (pw (lk tp a1))))]) (st' := []) (g1 := (HW (usc (usc sc 8010 (sk tp a1)) 8011 (-1)) (usc ar 88 f1) 81 oc rl ou tl, q)) rfl ?_
          rw [← ea1] at hk
          refine m_itw_l ht hv hc hro m (orz t (pw (lk tp a))) a1 f1 (usz v (pw (lk tp a)) (itR tp (kc6 (pw (lk tp a))) (kc7 (pw (lk tp a))) (sk tp a + 1)).2.1) (by omega) (by omega) ra1 (fun j j0 j1 => ?_) (fun i hi9 => ?_) hk
          · rw [ef1]; show usz f (ro + pw (lk tp a)) _ (ro + j) = _; by_cases ej : j = pw (lk tp a)
            · rw [ej, usz_s, usz_s]
            · rw [usz_n (by omega), usz_n ej]; exact hf j j0 j1
          · rw [ef1]; show usz f (ro + pw (lk tp a)) _ i = _; rw [usz_n (by omega)]; exact hf0 i hi9
        · rw [its, if_neg (by omega), if_neg hbt, if_pos hq] at hk
          refine RQ.seg 3 (pc' := 320) (L' := [some (.ref 80), some (.int (iI c)), some (.int (iI 1)), some (.int (iI ro)), some (.ref 88), some (.retAddr 22), some (.int (iI (orz t (pw (lk tp a))))), some (.int (iI (pw (lk tp a))))]) (st' := [.int (iI (-1)), .int (iI ((itR tp (kc6 (pw (lk tp a))) (kc7 (pw (lk tp a))) (sk tp a + 1)).1))]) (g1 := (HW (usc (usc sc 8010 a1) 8011 ((itR tp (kc6 (pw (lk tp a))) (kc7 (pw (lk tp a))) (sk tp a + 1)).1)) (usc ar 88 f1) 81 oc rl ou tl, q)) rfl ?_
          refine RQ.if2 (a := ((itR tp (kc6 (pw (lk tp a))) (kc7 (pw (lk tp a))) (sk tp a + 1)).1)) (b := (-1)) rfl rfl rfl rfl (by omega) (by omega) (fun _ => ?_) (fun (q : ¬ (itR tp (kc6 (pw (lk tp a))) (kc7 (pw (lk tp a))) (sk tp a + 1)).1 ≠ (-1)) => absurd (show (itR tp (kc6 (pw (lk tp a))) (kc7 (pw (lk tp a))) (sk tp a + 1)).1 ≠ (-1) from by omega) q)
          refine RQ.seg 2 (pc' := 257) (L' := [some (.ref 80), some (.int (iI c)), some (.int (iI 1)), some (.int (iI ro)), some (.ref 88), some (.retAddr 22), some (.int (iI (orz t (pw (lk tp a))))), some (.int (iI (pw (lk tp a))))]) (st' := [.int (iI (-1)), .int (iI (pw (lk tp a)))]) (g1 := (HW (usc (usc sc 8010 a1) 8011 ((itR tp (kc6 (pw (lk tp a))) (kc7 (pw (lk tp a))) (sk tp a + 1)).1)) (usc ar 88 f1) 81 oc rl ou tl, q)) rfl ?_
          refine RQ.if2 (a := (pw (lk tp a))) (b := (-1)) rfl rfl rfl rfl (by omega) (by omega) (fun (q : pw (lk tp a) = (-1)) => absurd q (show ¬ pw (lk tp a) = (-1) from by omega)) (fun _ => ?_)
          refine RQ.seg 3 (pc' := 265) (L' := [some (.ref 80), some (.int (iI c)), some (.int (iI 1)), some (.int (iI ro)), some (.ref 88), some (.retAddr 22), some (.int (iI (orz t (pw (lk tp a))))), some (.int (iI (pw (lk tp a))))]) (st' := [.int (iI (-1)), .int (iI ((itR tp (kc6 (pw (lk tp a))) (kc7 (pw (lk tp a))) (sk tp a + 1)).1))]) (g1 := (HW (usc (usc sc 8010 a1) 8011 ((itR tp (kc6 (pw (lk tp a))) (kc7 (pw (lk tp a))) (sk tp a + 1)).1)) (usc ar 88 f1) 81 oc rl ou tl, q)) rfl ?_
          refine RQ.if2 (a := ((itR tp (kc6 (pw (lk tp a))) (kc7 (pw (lk tp a))) (sk tp a + 1)).1)) (b := (-1)) rfl rfl rfl rfl (by omega) (by omega) (fun _ => ?_) (fun (q : ¬ (itR tp (kc6 (pw (lk tp a))) (kc7 (pw (lk tp a))) (sk tp a + 1)).1 ≠ (-1)) => absurd (show (itR tp (kc6 (pw (lk tp a))) (kc7 (pw (lk tp a))) (sk tp a + 1)).1 ≠ (-1) from by omega) q)
          refine RQ.ret rfl rfl ?_
          exact hk _ _ _ (by omega) ra1 rfl (fun z9 => absurd z9 hq) (by rw [hg2 hq]; exact hf0)
theorem m_itb_l {K : PK} {d : Nat} {sc : Nat → Int} {ar : Nat → Int → Int} {oc : Nat} {rl : Nat → Option Nat} {ou : Nat → Int64} {tl : List PO} {q : Nat × Nat} {Q : Option Value → PG → Prop} {tp : List Int} {bg : Int} (ht : TpOK tp) (hv : TvM tp bg 160 (sc 8008) (sc 8009) (ar 81)) {c ro : Int} {f0 : Int → Int} (hc : c = 98) (hro : 0 ≤ ro ∧ ro + 3 ≤ 9) : ∀ (m : Nat) (t a : Int) (f v : Int → Int) (hm : pc4 t + m = 4) (htr : 0 ≤ t ∧ t < 8) (ha : 0 ≤ a ∧ a ≤ (tp.length : Int)) (hf : ∀ j, 0 ≤ j → j < 3 → f (ro + j) = v j) (hf0 : ∀ i, i < ro ∨ ro + 3 ≤ i → f i = f0 i) (hk : ∀ a' w' f', (-1 ≤ w' ∧ w' ≤ 160) → (0 ≤ a' ∧ a' ≤ (tp.length : Int)) → w' = (its pb kc9 kc10 tp m t a v).1 → ((its pb kc9 kc10 tp m t a v).1 = -1 → a' = (its pb kc9 kc10 tp m t a v).2.1 ∧ ∀ j, 0 ≤ j → j < 3 → f' (ro + j) = (its pb kc9 kc10 tp m t a v).2.2 j) → (∀ i, i < ro ∨ ro + 3 ≤ i → f' i = f0 i) → Q none (HW (usc (usc sc 8010 a') 8011 w') (usc ar 89 f') 81 oc rl ou tl, q)), RQ K (d + 5) 11 false none cd180 254 [some (.ref 80), some (.int (iI c)), some (.int (iI 1)), some (.int (iI ro)), some (.ref 89), some (.retAddr 23), some (.int (iI t)), some (.int (iI (pb (lk tp a))))] [] (HW (usc (usc sc 8010 (sk tp a)) 8011 (-1)) (usc ar 89 f) 81 oc rl ou tl, q) Q
  | 0, t, a, f, v, hm, htr, ha, hf, hf0, hk => by exfalso; unfold pc4 at hm; omega
  | m + 1, t, a, f, v, hm, htr, ha, hf, hf0, hk => by
    have ht1 := ht.1
    obtain ⟨hv1, hv2, hv3, hv4⟩ := id hv
    have hsk := sk_r (tp := tp) ha.2
    have hlr := tch_r ht (sk tp a)
    have hlk : 0 ≤ lk tp a ∧ lk tp a ≤ 255 := hlr
    have hpr := pb_r (lk tp a)
    have hkr : lk tp a ≠ 0 → 0 ≤ sk tp a ∧ sk tp a < (tp.length : Int) := fun z => tch_pos z
    have hkA := kr9 (pb (lk tp a))
    have hkB := kr10 (pb (lk tp a))
    refine RQ.seg 2 (pc' := 257) (L' := [some (.ref 80), some (.int (iI c)), some (.int (iI 1)), some (.int (iI ro)), some (.ref 89), some (.retAddr 23), some (.int (iI t)), some (.int (iI (pb (lk tp a))))]) (st' := [.int (iI (-1)), .int (iI (pb (lk tp a)))]) (g1 := (HW (usc (usc sc 8010 (sk tp a)) 8011 (-1)) (usc ar 89 f) 81 oc rl ou tl, q)) rfl ?_
    refine RQ.if2 (a := (pb (lk tp a))) (b := (-1)) rfl rfl rfl rfl (by omega) (by omega) (fun (h1 : pb (lk tp a) = (-1)) => ?_) (fun (h1 : ¬ pb (lk tp a) = (-1)) => ?_)
    · skip
      refine RQ.ret rfl rfl ?_
      rw [its, if_pos (by omega)] at hk
      exact hk _ _ _ (by omega) (by omega) rfl (fun _ => ⟨rfl, hf⟩) hf0
    · skip
      refine RQ.seg 3 (pc' := 265) (L' := [some (.ref 80), some (.int (iI c)), some (.int (iI 1)), some (.int (iI ro)), some (.ref 89), some (.retAddr 23), some (.int (iI t)), some (.int (iI (pb (lk tp a))))]) (st' := [.int (iI (-1)), .int (iI (-1))]) (g1 := (HW (usc (usc sc 8010 (sk tp a)) 8011 (-1)) (usc ar 89 f) 81 oc rl ou tl, q)) rfl ?_
      refine RQ.if2 (a := (-1)) (b := (-1)) rfl rfl rfl rfl (by omega) (by omega) (fun (q : (-1) ≠ (-1)) => absurd q (show ¬ (-1) ≠ (-1) from by omega)) (fun _ => ?_)
      refine RQ.seg 2 (pc' := 272) (L' := [some (.ref 80), some (.int (iI c)), some (.int (iI 1)), some (.int (iI ro)), some (.ref 89), some (.retAddr 23), some (.int (iI t)), some (.int (iI (pb (lk tp a))))]) (st' := [.int (iI (pb (lk tp a))), .int (iI t)]) (g1 := (HW (usc (usc sc 8010 (sk tp a)) 8011 (-1)) (usc ar 89 f) 81 oc rl ou tl, q)) rfl ?_
      have hkq := hkr (hpr.2.2 (by omega))
      rcases Decidable.em (t / 2 ^ (pb (lk tp a)).toNat % 2 = 1) with hbt | hbt
      · skip
        refine RQ.call rfl rfl (CallR.up (d := 1) (m_has_t (d := 0) (by omega) (by omega) hbt) (by omega)) ?_
        refine RQ.seg 2 (pc' := 279) (L' := [some (.ref 80), some (.int (iI c)), some (.int (iI 1)), some (.int (iI ro)), some (.ref 89), some (.retAddr 23), some (.int (iI t)), some (.int (iI (pb (lk tp a))))]) (st' := [.ref 80]) (g1 := (HW (usc (usc sc 8010 (sk tp a)) 8011 (-1)) (usc ar 89 f) 81 oc rl ou tl, q)) rfl ?_
        have hcall := CallR.up (d' := d + 5) (m_fails (K := K) (d := 0) (tx := 81) (oc := oc) (rl := rl) (ou := ou) (tl := tl) (q := q) (sc := usc (usc sc 8010 (sk tp a)) 8011 (-1)) (ar := usc ar 89 f) (by show -1 ≤ (-1 : Int) ∧ (-1 : Int) ≤ 200; omega)) (by omega)
        rw [show (if (usc (usc sc 8010 (sk tp a)) 8011 (-1)) 8011 = -1 then (usc (usc sc 8010 (sk tp a)) 8011 (-1)) 8010 else (usc (usc sc 8010 (sk tp a)) 8011 (-1)) 8011) = sk tp a from if_pos rfl] at hcall
        refine RQ.call rfl rfl hcall ?_
        refine RQ.hp (g1 := (HW (usc (usc sc 8010 (sk tp a)) 8011 (sk tp a)) (usc ar 89 f) 81 oc rl ou tl, q)) (HW_e (by rw [usc_uu _ 8011 _ _]; try rfl) rfl) ?_
        refine RQ.seg 1 (pc' := 283) (L' := [some (.ref 80), some (.int (iI c)), some (.int (iI 1)), some (.int (iI ro)), some (.ref 89), some (.retAddr 23), some (.int (iI t)), some (.int (iI (pb (lk tp a))))]) (st' := []) (g1 := (HW (usc (usc sc 8010 (sk tp a)) 8011 (sk tp a)) (usc ar 89 f) 81 oc rl ou tl, q)) rfl ?_
        refine RQ.ret rfl rfl ?_
        rw [its, if_neg (by omega), if_pos hbt] at hk
        exact hk _ _ _ (by omega) (by omega) rfl (fun z9 => absurd (show sk tp a = -1 from z9) (by omega)) hf0
      · skip
        have hor := orz4 (t := t) (i := pb (lk tp a)) (by omega) (by omega) hbt
        have hir := itR_r (tp := tp) (lo := kc9 (pb (lk tp a))) (hi := kc10 (pb (lk tp a))) (a := sk tp a + 1) (by omega)
        refine RQ.call rfl rfl (CallR.up (d := 1) (m_has_f (d := 0) (by omega) (by omega) (fun z9 => hbt z9)) (by omega)) ?_
        refine RQ.seg 4 (pc' := 289) (L' := [some (.ref 80), some (.int (iI c)), some (.int (iI 1)), some (.int (iI ro)), some (.ref 89), some (.retAddr 23), some (.int (iI t)), some (.int (iI (pb (lk tp a))))]) (st' := [.int (iI (pb (lk tp a))), .int (iI 1), .int (iI t)]) (g1 := (HW (usc (usc sc 8010 (sk tp a)) 8011 (-1)) (usc ar 89 f) 81 oc rl ou tl, q)) rfl ?_
        refine RQ.ishl1 (b := (pb (lk tp a))) rfl rfl rfl (by omega) ?_
        refine RQ.ior (a := t) (b := (pb (lk tp a))) rfl rfl rfl (by omega) (by omega) ?_
        refine RQ.seg 8 (pc' := 303) (L' := [some (.ref 80), some (.int (iI c)), some (.int (iI 1)), some (.int (iI ro)), some (.ref 89), some (.retAddr 23), some (.int (iI (orz t (pb (lk tp a))))), some (.int (iI (pb (lk tp a))))]) (st' := [.int (iI (pb (lk tp a))), .int (iI c), .int ((iI ro) + (iI (pb (lk tp a)))), .ref 89, .ref 80]) (g1 := (HW (usc (usc sc 8010 (sk tp a)) 8011 (-1)) (usc ar 89 f) 81 oc rl ou tl, q)) rfl ?_
        refine RQ.to (L' := [some (.ref 80), some (.int (iI c)), some (.int (iI 1)), some (.int (iI ro)), some (.ref 89), some (.retAddr 23), some (.int (iI (orz t (pb (lk tp a))))), some (.int (iI (pb (lk tp a))))]) (st' := [.int (iI (pb (lk tp a))), .int (iI c), .int (iI (ro + (pb (lk tp a)))), .ref 89, .ref 80]) rfl (by simp only [iI_add, iI_sub, iI_mul, iI_neg]) ?_
        refine RQ.call rfl rfl (CallR.up (d := 1) (m_least_b (d := 0) (c := c) (j := pb (lk tp a)) hc (by omega)) (by omega)) ?_
        refine RQ.seg 2 (pc' := 309) (L' := [some (.ref 80), some (.int (iI c)), some (.int (iI 1)), some (.int (iI ro)), some (.ref 89), some (.retAddr 23), some (.int (iI (orz t (pb (lk tp a))))), some (.int (iI (pb (lk tp a))))]) (st' := [.int (iI (pb (lk tp a))), .int (iI c), .int (iI (kc9 (pb (lk tp a)))), .int (iI (ro + (pb (lk tp a)))), .ref 89, .ref 80]) (g1 := (HW (usc (usc sc 8010 (sk tp a)) 8011 (-1)) (usc ar 89 f) 81 oc rl ou tl, q)) rfl ?_
        refine RQ.call rfl rfl (CallR.up (d := 1) (m_most_b (d := 0) (c := c) (j := pb (lk tp a)) hc (by omega)) (by omega)) ?_
        refine RQ.callQ rfl rfl ((m_item89 (d := 0) (sc := usc (usc sc 8010 (sk tp a)) 8011 (-1)) (ar := usc ar 89 f) (a := sk tp a) (pl0 := ro + pb (lk tp a)) (lo := kc9 (pb (lk tp a))) (hi := kc10 (pb (lk tp a))) ht hv rfl (by omega) rfl (by omega) (by omega) (by omega)).up (by omega)) (fun rv g1 hc => ?_)
        obtain ⟨rfl, a1, f1, rfl, ra1, hg1, hg2⟩ := hc
        refine RQ.hp (g1 := (HW (usc (usc sc 8010 a1) 8011 ((itR tp (kc9 (pb (lk tp a))) (kc10 (pb (lk tp a))) (sk tp a + 1)).1)) (usc ar 89 f1) 81 oc rl ou tl, q)) (HW_e (by rw [usc_sw _ 8011 8010 _ _ rfl, usc_uu _ 8010 _ _, usc_uu _ 8011 _ _]; try rfl) (by rw [usc_uu _ 89 _ _]; try rfl)) ?_
        rcases Decidable.em ((itR tp (kc9 (pb (lk tp a))) (kc10 (pb (lk tp a))) (sk tp a + 1)).1 = -1) with hq | hq
        · obtain ⟨ea1, ef1⟩ := hg1 hq
          rw [hq]
          rw [its, if_neg (by omega), if_neg hbt, if_neg (by omega)] at hk
          refine RQ.seg 3 (pc' := 320) (L' := [some (.ref 80), some (.int (iI c)), some (.int (iI 1)), some (.int (iI ro)), some (.ref 89), some (.retAddr 23), some (.int (iI (orz t (pb (lk tp a))))), some (.int (iI (pb (lk tp a))))]) (st' := [.int (iI (-1)), .int (iI (-1))]) (g1 := (HW (usc (usc sc 8010 a1) 8011 (-1)) (usc ar 89 f1) 81 oc rl ou tl, q)) rfl ?_
          refine RQ.if2 (a := (-1)) (b := (-1)) rfl rfl rfl rfl (by omega) (by omega) (fun (q : (-1) ≠ (-1)) => absurd q (show ¬ (-1) ≠ (-1) from by omega)) (fun _ => ?_)
          refine RQ.seg 2 (pc' := 326) (L' := [some (.ref 80), some (.int (iI c)), some (.int (iI 1)), some (.int (iI ro)), some (.ref 89), some (.retAddr 23), some (.int (iI (orz t (pb (lk tp a))))), some (.int (iI (pb (lk tp a))))]) (st' := [.ref 80, .retAddr 23]) (g1 := (HW (usc (usc sc 8010 a1) 8011 (-1)) (usc ar 89 f1) 81 oc rl ou tl, q)) rfl ?_
          have hlr1 := tch_r ht (sk tp a1)
          have hlk1 : 0 ≤ lk tp a1 ∧ lk tp a1 ≤ 255 := hlr1
          have hlm1 := lkm_r hlk1
          refine RQ.call rfl rfl (CallR.up (d := 1) (m_look81 (d := 0) (sc := usc (usc sc 8010 a1) 8011 (-1)) (ar := usc ar 89 f1) (a := a1) ht hv rfl ra1) (by omega)) ?_
          refine RQ.hp (g1 := (HW (usc (usc sc 8010 (sk tp a1)) 8011 (-1)) (usc ar 89 f1) 81 oc rl ou tl, q)) (HW_e (by rw [usc_sw _ 8011 8010 _ _ rfl, usc_uu _ 8010 _ _]; try rfl) rfl) ?_
          refine RQ.call rfl rfl (CallR.up (d := 5) (m_place_pb (d := 0) (c := lkm (lk tp a1)) (by omega)) (by omega)) ?_
          rw [pb_m]
          refine RQ.seg 2 (pc' := 254) (L' := [some (.ref 80), some (.int (iI c)), some (.int (iI 1)), some (.int (iI ro)), some (.ref 89), some (.retAddr 23), some (.int (iI (orz t (pb (lk tp a))))), some (.int (iI (pb (lk tp a1))))]) (st' := []) (g1 := (HW (usc (usc sc 8010 (sk tp a1)) 8011 (-1)) (usc ar 89 f1) 81 oc rl ou tl, q)) rfl ?_
          rw [← ea1] at hk
          refine m_itb_l ht hv hc hro m (orz t (pb (lk tp a))) a1 f1 (usz v (pb (lk tp a)) (itR tp (kc9 (pb (lk tp a))) (kc10 (pb (lk tp a))) (sk tp a + 1)).2.1) (by omega) (by omega) ra1 (fun j j0 j1 => ?_) (fun i hi9 => ?_) hk
          · rw [ef1]; show usz f (ro + pb (lk tp a)) _ (ro + j) = _; by_cases ej : j = pb (lk tp a)
            · rw [ej, usz_s, usz_s]
            · rw [usz_n (by omega), usz_n ej]; exact hf j j0 j1
          · rw [ef1]; show usz f (ro + pb (lk tp a)) _ i = _; rw [usz_n (by omega)]; exact hf0 i hi9
        · rw [its, if_neg (by omega), if_neg hbt, if_pos hq] at hk
          refine RQ.seg 3 (pc' := 320) (L' := [some (.ref 80), some (.int (iI c)), some (.int (iI 1)), some (.int (iI ro)), some (.ref 89), some (.retAddr 23), some (.int (iI (orz t (pb (lk tp a))))), some (.int (iI (pb (lk tp a))))]) (st' := [.int (iI (-1)), .int (iI ((itR tp (kc9 (pb (lk tp a))) (kc10 (pb (lk tp a))) (sk tp a + 1)).1))]) (g1 := (HW (usc (usc sc 8010 a1) 8011 ((itR tp (kc9 (pb (lk tp a))) (kc10 (pb (lk tp a))) (sk tp a + 1)).1)) (usc ar 89 f1) 81 oc rl ou tl, q)) rfl ?_
          refine RQ.if2 (a := ((itR tp (kc9 (pb (lk tp a))) (kc10 (pb (lk tp a))) (sk tp a + 1)).1)) (b := (-1)) rfl rfl rfl rfl (by omega) (by omega) (fun _ => ?_) (fun (q : ¬ (itR tp (kc9 (pb (lk tp a))) (kc10 (pb (lk tp a))) (sk tp a + 1)).1 ≠ (-1)) => absurd (show (itR tp (kc9 (pb (lk tp a))) (kc10 (pb (lk tp a))) (sk tp a + 1)).1 ≠ (-1) from by omega) q)
          refine RQ.seg 2 (pc' := 257) (L' := [some (.ref 80), some (.int (iI c)), some (.int (iI 1)), some (.int (iI ro)), some (.ref 89), some (.retAddr 23), some (.int (iI (orz t (pb (lk tp a))))), some (.int (iI (pb (lk tp a))))]) (st' := [.int (iI (-1)), .int (iI (pb (lk tp a)))]) (g1 := (HW (usc (usc sc 8010 a1) 8011 ((itR tp (kc9 (pb (lk tp a))) (kc10 (pb (lk tp a))) (sk tp a + 1)).1)) (usc ar 89 f1) 81 oc rl ou tl, q)) rfl ?_
          refine RQ.if2 (a := (pb (lk tp a))) (b := (-1)) rfl rfl rfl rfl (by omega) (by omega) (fun (q : pb (lk tp a) = (-1)) => absurd q (show ¬ pb (lk tp a) = (-1) from by omega)) (fun _ => ?_)
          refine RQ.seg 3 (pc' := 265) (L' := [some (.ref 80), some (.int (iI c)), some (.int (iI 1)), some (.int (iI ro)), some (.ref 89), some (.retAddr 23), some (.int (iI (orz t (pb (lk tp a))))), some (.int (iI (pb (lk tp a))))]) (st' := [.int (iI (-1)), .int (iI ((itR tp (kc9 (pb (lk tp a))) (kc10 (pb (lk tp a))) (sk tp a + 1)).1))]) (g1 := (HW (usc (usc sc 8010 a1) 8011 ((itR tp (kc9 (pb (lk tp a))) (kc10 (pb (lk tp a))) (sk tp a + 1)).1)) (usc ar 89 f1) 81 oc rl ou tl, q)) rfl ?_
          refine RQ.if2 (a := ((itR tp (kc9 (pb (lk tp a))) (kc10 (pb (lk tp a))) (sk tp a + 1)).1)) (b := (-1)) rfl rfl rfl rfl (by omega) (by omega) (fun _ => ?_) (fun (q : ¬ (itR tp (kc9 (pb (lk tp a))) (kc10 (pb (lk tp a))) (sk tp a + 1)).1 ≠ (-1)) => absurd (show (itR tp (kc9 (pb (lk tp a))) (kc10 (pb (lk tp a))) (sk tp a + 1)).1 ≠ (-1) from by omega) q)
          refine RQ.ret rfl rfl ?_
          exact hk _ _ _ (by omega) ra1 rfl (fun z9 => absurd z9 hq) (by rw [hg2 hq]; exact hf0)
theorem m_itl_l {K : PK} {d : Nat} {sc : Nat → Int} {ar : Nat → Int → Int} {oc : Nat} {rl : Nat → Option Nat} {ou : Nat → Int64} {tl : List PO} {q : Nat × Nat} {Q : Option Value → PG → Prop} {tp : List Int} {bg : Int} (ht : TpOK tp) (hv : TvM tp bg 160 (sc 8008) (sc 8009) (ar 81)) {c ro : Int} {f0 : Int → Int} (hc : c = 108) (hro : 0 ≤ ro ∧ ro + 4 ≤ 4) : ∀ (m : Nat) (t a : Int) (f v : Int → Int) (hm : pc4 t + m = 5) (htr : 0 ≤ t ∧ t < 16) (ha : 0 ≤ a ∧ a ≤ (tp.length : Int)) (hf : ∀ j, 0 ≤ j → j < 4 → f (ro + j) = v j) (hf0 : ∀ i, i < ro ∨ ro + 4 ≤ i → f i = f0 i) (hk : ∀ a' w' f', (-1 ≤ w' ∧ w' ≤ 160) → (0 ≤ a' ∧ a' ≤ (tp.length : Int)) → w' = (its pl kc11 kc12 tp m t a v).1 → ((its pl kc11 kc12 tp m t a v).1 = -1 → a' = (its pl kc11 kc12 tp m t a v).2.1 ∧ ∀ j, 0 ≤ j → j < 4 → f' (ro + j) = (its pl kc11 kc12 tp m t a v).2.2 j) → (∀ i, i < ro ∨ ro + 4 ≤ i → f' i = f0 i) → Q none (HW (usc (usc sc 8010 a') 8011 w') (usc ar 90 f') 81 oc rl ou tl, q)), RQ K (d + 5) 11 false none cd180 254 [some (.ref 80), some (.int (iI c)), some (.int (iI 1)), some (.int (iI ro)), some (.ref 90), some (.retAddr 24), some (.int (iI t)), some (.int (iI (pl (lk tp a))))] [] (HW (usc (usc sc 8010 (sk tp a)) 8011 (-1)) (usc ar 90 f) 81 oc rl ou tl, q) Q
  | 0, t, a, f, v, hm, htr, ha, hf, hf0, hk => by exfalso; unfold pc4 at hm; omega
  | m + 1, t, a, f, v, hm, htr, ha, hf, hf0, hk => by
    have ht1 := ht.1
    obtain ⟨hv1, hv2, hv3, hv4⟩ := id hv
    have hsk := sk_r (tp := tp) ha.2
    have hlr := tch_r ht (sk tp a)
    have hlk : 0 ≤ lk tp a ∧ lk tp a ≤ 255 := hlr
    have hpr := pl_r (lk tp a)
    have hkr : lk tp a ≠ 0 → 0 ≤ sk tp a ∧ sk tp a < (tp.length : Int) := fun z => tch_pos z
    have hkA := kr11 (pl (lk tp a))
    have hkB := kr12 (pl (lk tp a))
    refine RQ.seg 2 (pc' := 257) (L' := [some (.ref 80), some (.int (iI c)), some (.int (iI 1)), some (.int (iI ro)), some (.ref 90), some (.retAddr 24), some (.int (iI t)), some (.int (iI (pl (lk tp a))))]) (st' := [.int (iI (-1)), .int (iI (pl (lk tp a)))]) (g1 := (HW (usc (usc sc 8010 (sk tp a)) 8011 (-1)) (usc ar 90 f) 81 oc rl ou tl, q)) rfl ?_
    refine RQ.if2 (a := (pl (lk tp a))) (b := (-1)) rfl rfl rfl rfl (by omega) (by omega) (fun (h1 : pl (lk tp a) = (-1)) => ?_) (fun (h1 : ¬ pl (lk tp a) = (-1)) => ?_)
    · skip
      refine RQ.ret rfl rfl ?_
      rw [its, if_pos (by omega)] at hk
      exact hk _ _ _ (by omega) (by omega) rfl (fun _ => ⟨rfl, hf⟩) hf0
    · skip
      refine RQ.seg 3 (pc' := 265) (L' := [some (.ref 80), some (.int (iI c)), some (.int (iI 1)), some (.int (iI ro)), some (.ref 90), some (.retAddr 24), some (.int (iI t)), some (.int (iI (pl (lk tp a))))]) (st' := [.int (iI (-1)), .int (iI (-1))]) (g1 := (HW (usc (usc sc 8010 (sk tp a)) 8011 (-1)) (usc ar 90 f) 81 oc rl ou tl, q)) rfl ?_
      refine RQ.if2 (a := (-1)) (b := (-1)) rfl rfl rfl rfl (by omega) (by omega) (fun (q : (-1) ≠ (-1)) => absurd q (show ¬ (-1) ≠ (-1) from by omega)) (fun _ => ?_)
      refine RQ.seg 2 (pc' := 272) (L' := [some (.ref 80), some (.int (iI c)), some (.int (iI 1)), some (.int (iI ro)), some (.ref 90), some (.retAddr 24), some (.int (iI t)), some (.int (iI (pl (lk tp a))))]) (st' := [.int (iI (pl (lk tp a))), .int (iI t)]) (g1 := (HW (usc (usc sc 8010 (sk tp a)) 8011 (-1)) (usc ar 90 f) 81 oc rl ou tl, q)) rfl ?_
      have hkq := hkr (hpr.2.2 (by omega))
      rcases Decidable.em (t / 2 ^ (pl (lk tp a)).toNat % 2 = 1) with hbt | hbt
      · skip
        refine RQ.call rfl rfl (CallR.up (d := 1) (m_has_t (d := 0) (by omega) (by omega) hbt) (by omega)) ?_
        refine RQ.seg 2 (pc' := 279) (L' := [some (.ref 80), some (.int (iI c)), some (.int (iI 1)), some (.int (iI ro)), some (.ref 90), some (.retAddr 24), some (.int (iI t)), some (.int (iI (pl (lk tp a))))]) (st' := [.ref 80]) (g1 := (HW (usc (usc sc 8010 (sk tp a)) 8011 (-1)) (usc ar 90 f) 81 oc rl ou tl, q)) rfl ?_
        have hcall := CallR.up (d' := d + 5) (m_fails (K := K) (d := 0) (tx := 81) (oc := oc) (rl := rl) (ou := ou) (tl := tl) (q := q) (sc := usc (usc sc 8010 (sk tp a)) 8011 (-1)) (ar := usc ar 90 f) (by show -1 ≤ (-1 : Int) ∧ (-1 : Int) ≤ 200; omega)) (by omega)
        rw [show (if (usc (usc sc 8010 (sk tp a)) 8011 (-1)) 8011 = -1 then (usc (usc sc 8010 (sk tp a)) 8011 (-1)) 8010 else (usc (usc sc 8010 (sk tp a)) 8011 (-1)) 8011) = sk tp a from if_pos rfl] at hcall
        refine RQ.call rfl rfl hcall ?_
        refine RQ.hp (g1 := (HW (usc (usc sc 8010 (sk tp a)) 8011 (sk tp a)) (usc ar 90 f) 81 oc rl ou tl, q)) (HW_e (by rw [usc_uu _ 8011 _ _]; try rfl) rfl) ?_
        refine RQ.seg 1 (pc' := 283) (L' := [some (.ref 80), some (.int (iI c)), some (.int (iI 1)), some (.int (iI ro)), some (.ref 90), some (.retAddr 24), some (.int (iI t)), some (.int (iI (pl (lk tp a))))]) (st' := []) (g1 := (HW (usc (usc sc 8010 (sk tp a)) 8011 (sk tp a)) (usc ar 90 f) 81 oc rl ou tl, q)) rfl ?_
        refine RQ.ret rfl rfl ?_
        rw [its, if_neg (by omega), if_pos hbt] at hk
        exact hk _ _ _ (by omega) (by omega) rfl (fun z9 => absurd (show sk tp a = -1 from z9) (by omega)) hf0
      · skip
        have hor := orz4 (t := t) (i := pl (lk tp a)) (by omega) (by omega) hbt
        have hir := itR_r (tp := tp) (lo := kc11 (pl (lk tp a))) (hi := kc12 (pl (lk tp a))) (a := sk tp a + 1) (by omega)
        refine RQ.call rfl rfl (CallR.up (d := 1) (m_has_f (d := 0) (by omega) (by omega) (fun z9 => hbt z9)) (by omega)) ?_
        refine RQ.seg 4 (pc' := 289) (L' := [some (.ref 80), some (.int (iI c)), some (.int (iI 1)), some (.int (iI ro)), some (.ref 90), some (.retAddr 24), some (.int (iI t)), some (.int (iI (pl (lk tp a))))]) (st' := [.int (iI (pl (lk tp a))), .int (iI 1), .int (iI t)]) (g1 := (HW (usc (usc sc 8010 (sk tp a)) 8011 (-1)) (usc ar 90 f) 81 oc rl ou tl, q)) rfl ?_
        refine RQ.ishl1 (b := (pl (lk tp a))) rfl rfl rfl (by omega) ?_
        refine RQ.ior (a := t) (b := (pl (lk tp a))) rfl rfl rfl (by omega) (by omega) ?_
        refine RQ.seg 8 (pc' := 303) (L' := [some (.ref 80), some (.int (iI c)), some (.int (iI 1)), some (.int (iI ro)), some (.ref 90), some (.retAddr 24), some (.int (iI (orz t (pl (lk tp a))))), some (.int (iI (pl (lk tp a))))]) (st' := [.int (iI (pl (lk tp a))), .int (iI c), .int ((iI ro) + (iI (pl (lk tp a)))), .ref 90, .ref 80]) (g1 := (HW (usc (usc sc 8010 (sk tp a)) 8011 (-1)) (usc ar 90 f) 81 oc rl ou tl, q)) rfl ?_
        refine RQ.to (L' := [some (.ref 80), some (.int (iI c)), some (.int (iI 1)), some (.int (iI ro)), some (.ref 90), some (.retAddr 24), some (.int (iI (orz t (pl (lk tp a))))), some (.int (iI (pl (lk tp a))))]) (st' := [.int (iI (pl (lk tp a))), .int (iI c), .int (iI (ro + (pl (lk tp a)))), .ref 90, .ref 80]) rfl (by simp only [iI_add, iI_sub, iI_mul, iI_neg]) ?_
        refine RQ.call rfl rfl (CallR.up (d := 1) (m_least_l (d := 0) (c := c) (j := pl (lk tp a)) hc (by omega)) (by omega)) ?_
        refine RQ.seg 2 (pc' := 309) (L' := [some (.ref 80), some (.int (iI c)), some (.int (iI 1)), some (.int (iI ro)), some (.ref 90), some (.retAddr 24), some (.int (iI (orz t (pl (lk tp a))))), some (.int (iI (pl (lk tp a))))]) (st' := [.int (iI (pl (lk tp a))), .int (iI c), .int (iI (kc11 (pl (lk tp a)))), .int (iI (ro + (pl (lk tp a)))), .ref 90, .ref 80]) (g1 := (HW (usc (usc sc 8010 (sk tp a)) 8011 (-1)) (usc ar 90 f) 81 oc rl ou tl, q)) rfl ?_
        refine RQ.call rfl rfl (CallR.up (d := 1) (m_most_l (d := 0) (c := c) (j := pl (lk tp a)) hc (by omega)) (by omega)) ?_
        refine RQ.callQ rfl rfl ((m_item90 (d := 0) (sc := usc (usc sc 8010 (sk tp a)) 8011 (-1)) (ar := usc ar 90 f) (a := sk tp a) (pl0 := ro + pl (lk tp a)) (lo := kc11 (pl (lk tp a))) (hi := kc12 (pl (lk tp a))) ht hv rfl (by omega) rfl (by omega) (by omega) (by omega)).up (by omega)) (fun rv g1 hc => ?_)
        obtain ⟨rfl, a1, f1, rfl, ra1, hg1, hg2⟩ := hc
        refine RQ.hp (g1 := (HW (usc (usc sc 8010 a1) 8011 ((itR tp (kc11 (pl (lk tp a))) (kc12 (pl (lk tp a))) (sk tp a + 1)).1)) (usc ar 90 f1) 81 oc rl ou tl, q)) (HW_e (by rw [usc_sw _ 8011 8010 _ _ rfl, usc_uu _ 8010 _ _, usc_uu _ 8011 _ _]; try rfl) (by rw [usc_uu _ 90 _ _]; try rfl)) ?_
        rcases Decidable.em ((itR tp (kc11 (pl (lk tp a))) (kc12 (pl (lk tp a))) (sk tp a + 1)).1 = -1) with hq | hq
        · obtain ⟨ea1, ef1⟩ := hg1 hq
          rw [hq]
          rw [its, if_neg (by omega), if_neg hbt, if_neg (by omega)] at hk
          refine RQ.seg 3 (pc' := 320) (L' := [some (.ref 80), some (.int (iI c)), some (.int (iI 1)), some (.int (iI ro)), some (.ref 90), some (.retAddr 24), some (.int (iI (orz t (pl (lk tp a))))), some (.int (iI (pl (lk tp a))))]) (st' := [.int (iI (-1)), .int (iI (-1))]) (g1 := (HW (usc (usc sc 8010 a1) 8011 (-1)) (usc ar 90 f1) 81 oc rl ou tl, q)) rfl ?_
          refine RQ.if2 (a := (-1)) (b := (-1)) rfl rfl rfl rfl (by omega) (by omega) (fun (q : (-1) ≠ (-1)) => absurd q (show ¬ (-1) ≠ (-1) from by omega)) (fun _ => ?_)
          refine RQ.seg 2 (pc' := 326) (L' := [some (.ref 80), some (.int (iI c)), some (.int (iI 1)), some (.int (iI ro)), some (.ref 90), some (.retAddr 24), some (.int (iI (orz t (pl (lk tp a))))), some (.int (iI (pl (lk tp a))))]) (st' := [.ref 80, .retAddr 24]) (g1 := (HW (usc (usc sc 8010 a1) 8011 (-1)) (usc ar 90 f1) 81 oc rl ou tl, q)) rfl ?_
          have hlr1 := tch_r ht (sk tp a1)
          have hlk1 : 0 ≤ lk tp a1 ∧ lk tp a1 ≤ 255 := hlr1
          have hlm1 := lkm_r hlk1
          refine RQ.call rfl rfl (CallR.up (d := 1) (m_look81 (d := 0) (sc := usc (usc sc 8010 a1) 8011 (-1)) (ar := usc ar 90 f1) (a := a1) ht hv rfl ra1) (by omega)) ?_
          refine RQ.hp (g1 := (HW (usc (usc sc 8010 (sk tp a1)) 8011 (-1)) (usc ar 90 f1) 81 oc rl ou tl, q)) (HW_e (by rw [usc_sw _ 8011 8010 _ _ rfl, usc_uu _ 8010 _ _]; try rfl) rfl) ?_
          refine RQ.call rfl rfl (CallR.up (d := 5) (m_place_pl (d := 0) (c := lkm (lk tp a1)) (by omega)) (by omega)) ?_
          rw [pl_m]
          refine RQ.seg 2 (pc' := 254) (L' := [some (.ref 80), some (.int (iI c)), some (.int (iI 1)), some (.int (iI ro)), some (.ref 90), some (.retAddr 24), some (.int (iI (orz t (pl (lk tp a))))), some (.int (iI (pl (lk tp a1))))]) (st' := []) (g1 := (HW (usc (usc sc 8010 (sk tp a1)) 8011 (-1)) (usc ar 90 f1) 81 oc rl ou tl, q)) rfl ?_
          rw [← ea1] at hk
          refine m_itl_l ht hv hc hro m (orz t (pl (lk tp a))) a1 f1 (usz v (pl (lk tp a)) (itR tp (kc11 (pl (lk tp a))) (kc12 (pl (lk tp a))) (sk tp a + 1)).2.1) (by omega) (by omega) ra1 (fun j j0 j1 => ?_) (fun i hi9 => ?_) hk
          · rw [ef1]; show usz f (ro + pl (lk tp a)) _ (ro + j) = _; by_cases ej : j = pl (lk tp a)
            · rw [ej, usz_s, usz_s]
            · rw [usz_n (by omega), usz_n ej]; exact hf j j0 j1
          · rw [ef1]; show usz f (ro + pl (lk tp a)) _ i = _; rw [usz_n (by omega)]; exact hf0 i hi9
        · rw [its, if_neg (by omega), if_neg hbt, if_pos hq] at hk
          refine RQ.seg 3 (pc' := 320) (L' := [some (.ref 80), some (.int (iI c)), some (.int (iI 1)), some (.int (iI ro)), some (.ref 90), some (.retAddr 24), some (.int (iI (orz t (pl (lk tp a))))), some (.int (iI (pl (lk tp a))))]) (st' := [.int (iI (-1)), .int (iI ((itR tp (kc11 (pl (lk tp a))) (kc12 (pl (lk tp a))) (sk tp a + 1)).1))]) (g1 := (HW (usc (usc sc 8010 a1) 8011 ((itR tp (kc11 (pl (lk tp a))) (kc12 (pl (lk tp a))) (sk tp a + 1)).1)) (usc ar 90 f1) 81 oc rl ou tl, q)) rfl ?_
          refine RQ.if2 (a := ((itR tp (kc11 (pl (lk tp a))) (kc12 (pl (lk tp a))) (sk tp a + 1)).1)) (b := (-1)) rfl rfl rfl rfl (by omega) (by omega) (fun _ => ?_) (fun (q : ¬ (itR tp (kc11 (pl (lk tp a))) (kc12 (pl (lk tp a))) (sk tp a + 1)).1 ≠ (-1)) => absurd (show (itR tp (kc11 (pl (lk tp a))) (kc12 (pl (lk tp a))) (sk tp a + 1)).1 ≠ (-1) from by omega) q)
          refine RQ.seg 2 (pc' := 257) (L' := [some (.ref 80), some (.int (iI c)), some (.int (iI 1)), some (.int (iI ro)), some (.ref 90), some (.retAddr 24), some (.int (iI (orz t (pl (lk tp a))))), some (.int (iI (pl (lk tp a))))]) (st' := [.int (iI (-1)), .int (iI (pl (lk tp a)))]) (g1 := (HW (usc (usc sc 8010 a1) 8011 ((itR tp (kc11 (pl (lk tp a))) (kc12 (pl (lk tp a))) (sk tp a + 1)).1)) (usc ar 90 f1) 81 oc rl ou tl, q)) rfl ?_
          refine RQ.if2 (a := (pl (lk tp a))) (b := (-1)) rfl rfl rfl rfl (by omega) (by omega) (fun (q : pl (lk tp a) = (-1)) => absurd q (show ¬ pl (lk tp a) = (-1) from by omega)) (fun _ => ?_)
          refine RQ.seg 3 (pc' := 265) (L' := [some (.ref 80), some (.int (iI c)), some (.int (iI 1)), some (.int (iI ro)), some (.ref 90), some (.retAddr 24), some (.int (iI (orz t (pl (lk tp a))))), some (.int (iI (pl (lk tp a))))]) (st' := [.int (iI (-1)), .int (iI ((itR tp (kc11 (pl (lk tp a))) (kc12 (pl (lk tp a))) (sk tp a + 1)).1))]) (g1 := (HW (usc (usc sc 8010 a1) 8011 ((itR tp (kc11 (pl (lk tp a))) (kc12 (pl (lk tp a))) (sk tp a + 1)).1)) (usc ar 90 f1) 81 oc rl ou tl, q)) rfl ?_
          refine RQ.if2 (a := ((itR tp (kc11 (pl (lk tp a))) (kc12 (pl (lk tp a))) (sk tp a + 1)).1)) (b := (-1)) rfl rfl rfl rfl (by omega) (by omega) (fun _ => ?_) (fun (q : ¬ (itR tp (kc11 (pl (lk tp a))) (kc12 (pl (lk tp a))) (sk tp a + 1)).1 ≠ (-1)) => absurd (show (itR tp (kc11 (pl (lk tp a))) (kc12 (pl (lk tp a))) (sk tp a + 1)).1 ≠ (-1) from by omega) q)
          refine RQ.ret rfl rfl ?_
          exact hk _ _ _ (by omega) ra1 rfl (fun z9 => absurd z9 hq) (by rw [hg2 hq]; exact hf0)
theorem m_fclause {K : PK} {d : Nat} {sc : Nat → Int} {ar : Nat → Int → Int} {oc : Nat} {rl : Nat → Option Nat} {ou : Nat → Int64} {tl : List PO} {q : Nat × Nat} {tp : List Int} {bg : Int} (ht : TpOK tp) (hv : TvM tp bg 160 (sc 8008) (sc 8009) (ar 81)) {S : FS} (hS : FsOK tp S) (hX : FdM S sc ar) (h0 : sc 8011 = -1) : CQ K (d + 6) 180 [.ref 80] (HW sc ar 81 oc rl ou tl, q) (fun r g' => r = none ∧ ∃ sc' ar', g' = (HW sc' ar' 81 oc rl ou tl, q) ∧ Same frS sc sc' ∧ Same scA ar ar' ∧ sc' 8011 = fE (cls tp S) ∧ (fE (cls tp S) = -1 → FdM (cls tp S) sc' ar') ∧ (0 ≤ sc' 8010 ∧ sc' 8010 ≤ (tp.length : Int)) ∧ (-1 ≤ sc' 8011 ∧ sc' 8011 ≤ 160)) := by
  have ht1 := ht.1
  obtain ⟨hv1, hv2, hv3, hv4⟩ := id hv
  obtain ⟨y1, y2, y3, y4, y5, y6, y7⟩ := id hX
  have hS1 := hS.1
  have hS2 := hS.2.1
  have hS3 := hS.2.2.1
  have hS4 := hS.2.2.2.1
  have hsk := sk_r (tp := tp) hS.1.2
  have hlr := tch_r ht (sk tp (fA S))
  have hlk : 0 ≤ lk tp (fA S) ∧ lk tp (fA S) ≤ 255 := hlr
  have hlm := lkm_r hlk
  refine CQ.of (own := 11) (n := 8) (ini := false) (rt := none) (cd := cd180) (by decide +kernel) rfl (by decide +kernel) rfl (Nat.le_of_ble_eq_true rfl) ?_
  refine RQ.seg 1 (pc' := 1) (L' := [some (.ref 80), none, none, none, none, none, none, none]) (st' := [.ref 80]) (g1 := (HW sc ar 81 oc rl ou tl, q)) rfl ?_
  refine RQ.call rfl rfl (CallR.up (d := 1) (m_look81 (d := 0) (sc := sc) (ar := ar) (a := fA S) ht hv y1 hS.1) (by omega)) ?_
  refine RQ.seg 3 (pc' := 8) (L' := [some (.ref 80), some (.int (iI (lkm (lk tp (fA S))))), none, none, none, none, none, none]) (st' := [.int (iI 119), .int (iI (lkm (lk tp (fA S))))]) (g1 := (HW (usc sc 8010 (sk tp (fA S))) ar 81 oc rl ou tl, q)) rfl ?_
  refine RQ.if2 (a := (lkm (lk tp (fA S)))) (b := 119) rfl rfl rfl rfl (by omega) (by omega) (fun (h1 : lkm (lk tp (fA S)) ≠ 119) => ?_) (fun (h1 : ¬ lkm (lk tp (fA S)) ≠ 119) => ?_)
  · skip
    refine RQ.seg 2 (pc' := 22) (L' := [some (.ref 80), some (.int (iI (lkm (lk tp (fA S))))), none, none, none, none, none, none]) (st' := [.int (iI 98), .int (iI (lkm (lk tp (fA S))))]) (g1 := (HW (usc sc 8010 (sk tp (fA S))) ar 81 oc rl ou tl, q)) rfl ?_
    refine RQ.if2 (a := (lkm (lk tp (fA S)))) (b := 98) rfl rfl rfl rfl (by omega) (by omega) (fun (h2 : lkm (lk tp (fA S)) ≠ 98) => ?_) (fun (h2 : ¬ lkm (lk tp (fA S)) ≠ 98) => ?_)
    · skip
      refine RQ.seg 2 (pc' := 36) (L' := [some (.ref 80), some (.int (iI (lkm (lk tp (fA S))))), none, none, none, none, none, none]) (st' := [.int (iI 108), .int (iI (lkm (lk tp (fA S))))]) (g1 := (HW (usc sc 8010 (sk tp (fA S))) ar 81 oc rl ou tl, q)) rfl ?_
      refine RQ.if2 (a := (lkm (lk tp (fA S)))) (b := 108) rfl rfl rfl rfl (by omega) (by omega) (fun (h3 : lkm (lk tp (fA S)) ≠ 108) => ?_) (fun (h3 : ¬ lkm (lk tp (fA S)) ≠ 108) => ?_)
      · skip
        refine RQ.seg 5 (pc' := 57) (L' := [some (.ref 80), some (.int (iI (lkm (lk tp (fA S))))), some (.int (iI 0)), none, none, none, none, none]) (st' := [.ref 80]) (g1 := (HW (usc sc 8010 (sk tp (fA S))) ar 81 oc rl ou tl, q)) rfl ?_
        have hcall := CallR.up (d' := d + 5) (m_fails (K := K) (d := 0) (tx := 81) (oc := oc) (rl := rl) (ou := ou) (tl := tl) (q := q) (sc := usc sc 8010 (sk tp (fA S))) (ar := ar) (by show -1 ≤ sc 8011 ∧ sc 8011 ≤ 200; omega)) (by omega)
        rw [show (if (usc sc 8010 (sk tp (fA S))) 8011 = -1 then (usc sc 8010 (sk tp (fA S))) 8010 else (usc sc 8010 (sk tp (fA S))) 8011) = sk tp (fA S) from if_pos h0] at hcall
        refine RQ.call rfl rfl hcall ?_
        refine RQ.seg 1 (pc' := 61) (L' := [some (.ref 80), some (.int (iI (lkm (lk tp (fA S))))), some (.int (iI 0)), none, none, none, none, none]) (st' := []) (g1 := (HW (usc (usc sc 8010 (sk tp (fA S))) 8011 (sk tp (fA S))) ar 81 oc rl ou tl, q)) rfl ?_
        refine RQ.ret rfl rfl ?_
        have eT : cls tp S = (sk tp (fA S), sk tp (fA S), fW S, fB S, fL S, gW S, gB S, gL S) := by unfold cls; rw [if_neg (by omega), if_neg (by omega), if_neg (by omega)]
        rw [eT]
        exact ⟨rfl, _, _, rfl, (by repeat (first | exact Same.rf | refine Same.us rfl ?_)), (by repeat (first | exact Same.rf | refine Same.us rfl ?_)), rfl, fun z => absurd (show sk tp (fA S) = -1 from z) (by omega), by show 0 ≤ sk tp (fA S) ∧ sk tp (fA S) ≤ _; omega, by show -1 ≤ sk tp (fA S) ∧ sk tp (fA S) ≤ 160; omega⟩
      · skip
        refine RQ.seg 2 (pc' := 43) (L' := [some (.ref 80), some (.int (iI (lkm (lk tp (fA S))))), none, none, none, none, none, none]) (st' := [.int (iI (sc 8028))]) (g1 := (HW (usc sc 8010 (sk tp (fA S))) ar 81 oc rl ou tl, q)) rfl ?_
        refine RQ.to (L' := [some (.ref 80), some (.int (iI (lkm (lk tp (fA S))))), none, none, none, none, none, none]) (st' := [.int (iI (fL S))]) rfl (by rw [show sc 8028 = fL S from y2]) ?_
        refine RQ.if1 (a := (fL S)) rfl rfl rfl (by omega) (fun (h4 : fL S ≠ 0) => ?_) (fun (h4 : ¬ fL S ≠ 0) => ?_)
        · skip
          refine RQ.seg 5 (pc' := 57) (L' := [some (.ref 80), some (.int (iI (lkm (lk tp (fA S))))), some (.int (iI 0)), none, none, none, none, none]) (st' := [.ref 80]) (g1 := (HW (usc sc 8010 (sk tp (fA S))) ar 81 oc rl ou tl, q)) rfl ?_
          have hcall := CallR.up (d' := d + 5) (m_fails (K := K) (d := 0) (tx := 81) (oc := oc) (rl := rl) (ou := ou) (tl := tl) (q := q) (sc := usc sc 8010 (sk tp (fA S))) (ar := ar) (by show -1 ≤ sc 8011 ∧ sc 8011 ≤ 200; omega)) (by omega)
          rw [show (if (usc sc 8010 (sk tp (fA S))) 8011 = -1 then (usc sc 8010 (sk tp (fA S))) 8010 else (usc sc 8010 (sk tp (fA S))) 8011) = sk tp (fA S) from if_pos h0] at hcall
          refine RQ.call rfl rfl hcall ?_
          refine RQ.seg 1 (pc' := 61) (L' := [some (.ref 80), some (.int (iI (lkm (lk tp (fA S))))), some (.int (iI 0)), none, none, none, none, none]) (st' := []) (g1 := (HW (usc (usc sc 8010 (sk tp (fA S))) 8011 (sk tp (fA S))) ar 81 oc rl ou tl, q)) rfl ?_
          refine RQ.ret rfl rfl ?_
          have eT : cls tp S = (sk tp (fA S), sk tp (fA S), fW S, fB S, fL S, gW S, gB S, gL S) := by unfold cls; rw [if_neg (by omega), if_neg (by omega), if_neg (by omega)]
          rw [eT]
          exact ⟨rfl, _, _, rfl, (by repeat (first | exact Same.rf | refine Same.us rfl ?_)), (by repeat (first | exact Same.rf | refine Same.us rfl ?_)), rfl, fun z => absurd (show sk tp (fA S) = -1 from z) (by omega), by show 0 ≤ sk tp (fA S) ∧ sk tp (fA S) ≤ _; omega, by show -1 ≤ sk tp (fA S) ∧ sk tp (fA S) ≤ 160; omega⟩
        · skip
          have hkp := tch_pos (tp := tp) (p := sk tp (fA S)) (by show lk tp (fA S) ≠ 0; omega)
          refine RQ.seg 10 (pc' := 69) (L' := [some (.ref 80), some (.int (iI (lkm (lk tp (fA S))))), some (.int (iI 1)), none, none, none, none, none]) (st' := [.int ((iI (sk tp (fA S))) + (iI 1)), .ref 80]) (g1 := (HW (usc sc 8010 (sk tp (fA S))) ar 81 oc rl ou tl, q)) rfl ?_
          refine RQ.to (L' := [some (.ref 80), some (.int (iI (lkm (lk tp (fA S))))), some (.int (iI 1)), none, none, none, none, none]) (st' := [.int (iI (sk tp (fA S) + 1)), .ref 80]) rfl (by simp only [iI_add, iI_sub, iI_mul, iI_neg]) ?_
          refine RQ.seg 3 (pc' := 75) (L' := [some (.ref 80), some (.int (iI (lkm (lk tp (fA S))))), some (.int (iI 1)), none, none, none, none, none]) (st' := [.int (iI 119), .int (iI (lkm (lk tp (fA S))))]) (g1 := (HW (usc sc 8010 (sk tp (fA S) + 1)) ar 81 oc rl ou tl, q)) rfl ?_
          refine RQ.if2 (a := (lkm (lk tp (fA S)))) (b := 119) rfl rfl rfl rfl (by omega) (by omega) (fun _ => ?_) (fun (q : ¬ lkm (lk tp (fA S)) ≠ 119) => absurd (show lkm (lk tp (fA S)) ≠ 119 from by omega) q)
          refine RQ.seg 2 (pc' := 90) (L' := [some (.ref 80), some (.int (iI (lkm (lk tp (fA S))))), some (.int (iI 1)), none, none, none, none, none]) (st' := [.int (iI 98), .int (iI (lkm (lk tp (fA S))))]) (g1 := (HW (usc sc 8010 (sk tp (fA S) + 1)) ar 81 oc rl ou tl, q)) rfl ?_
          refine RQ.if2 (a := (lkm (lk tp (fA S)))) (b := 98) rfl rfl rfl rfl (by omega) (by omega) (fun _ => ?_) (fun (q : ¬ lkm (lk tp (fA S)) ≠ 98) => absurd (show lkm (lk tp (fA S)) ≠ 98 from by omega) q)
          refine RQ.seg 4 (pc' := 107) (L' := [some (.ref 80), some (.int (iI (lkm (lk tp (fA S))))), some (.int (iI 1)), some (.int (iI 0)), none, none, none, none]) (st' := [.int (iI 119), .int (iI (lkm (lk tp (fA S))))]) (g1 := (HW (usc sc 8010 (sk tp (fA S) + 1)) ar 81 oc rl ou tl, q)) rfl ?_
          refine RQ.if2 (a := (lkm (lk tp (fA S)))) (b := 119) rfl rfl rfl rfl (by omega) (by omega) (fun _ => ?_) (fun (q : ¬ lkm (lk tp (fA S)) ≠ 119) => absurd (show lkm (lk tp (fA S)) ≠ 119 from by omega) q)
          refine RQ.seg 2 (pc' := 120) (L' := [some (.ref 80), some (.int (iI (lkm (lk tp (fA S))))), some (.int (iI 1)), some (.int (iI 0)), none, none, none, none]) (st' := [.int (iI 98), .int (iI (lkm (lk tp (fA S))))]) (g1 := (HW (usc sc 8010 (sk tp (fA S) + 1)) ar 81 oc rl ou tl, q)) rfl ?_
          refine RQ.if2 (a := (lkm (lk tp (fA S)))) (b := 98) rfl rfl rfl rfl (by omega) (by omega) (fun _ => ?_) (fun (q : ¬ lkm (lk tp (fA S)) ≠ 98) => absurd (show lkm (lk tp (fA S)) ≠ 98 from by omega) q)
          refine RQ.seg 5 (pc' := 139) (L' := [some (.ref 80), some (.int (iI (lkm (lk tp (fA S))))), some (.int (iI 1)), some (.int (iI 0)), some (.ref 90), none, none, none]) (st' := [.int (iI 119), .int (iI (lkm (lk tp (fA S))))]) (g1 := (HW (usc sc 8010 (sk tp (fA S) + 1)) ar 81 oc rl ou tl, q)) rfl ?_
          refine RQ.if2 (a := (lkm (lk tp (fA S)))) (b := 119) rfl rfl rfl rfl (by omega) (by omega) (fun _ => ?_) (fun (q : ¬ lkm (lk tp (fA S)) ≠ 119) => absurd (show lkm (lk tp (fA S)) ≠ 119 from by omega) q)
          refine RQ.seg 2 (pc' := 151) (L' := [some (.ref 80), some (.int (iI (lkm (lk tp (fA S))))), some (.int (iI 1)), some (.int (iI 0)), some (.ref 90), none, none, none]) (st' := [.int (iI 98), .int (iI (lkm (lk tp (fA S))))]) (g1 := (HW (usc sc 8010 (sk tp (fA S) + 1)) ar 81 oc rl ou tl, q)) rfl ?_
          refine RQ.if2 (a := (lkm (lk tp (fA S)))) (b := 98) rfl rfl rfl rfl (by omega) (by omega) (fun _ => ?_) (fun (q : ¬ lkm (lk tp (fA S)) ≠ 98) => absurd (show lkm (lk tp (fA S)) ≠ 98 from by omega) q)
          refine RQ.seg 4 (pc' := 168) (L' := [some (.ref 80), some (.int (iI (lkm (lk tp (fA S))))), some (.int (iI 1)), some (.int (iI 0)), some (.ref 90), some (.retAddr 24), none, none]) (st' := [.int (iI 119), .int (iI (lkm (lk tp (fA S))))]) (g1 := (HW (usc sc 8010 (sk tp (fA S) + 1)) ar 81 oc rl ou tl, q)) rfl ?_
          refine RQ.if2 (a := (lkm (lk tp (fA S)))) (b := 119) rfl rfl rfl rfl (by omega) (by omega) (fun _ => ?_) (fun (q : ¬ lkm (lk tp (fA S)) ≠ 119) => absurd (show lkm (lk tp (fA S)) ≠ 119 from by omega) q)
          refine RQ.seg 2 (pc' := 184) (L' := [some (.ref 80), some (.int (iI (lkm (lk tp (fA S))))), some (.int (iI 1)), some (.int (iI 0)), some (.ref 90), some (.retAddr 24), none, none]) (st' := [.int (iI 98), .int (iI (lkm (lk tp (fA S))))]) (g1 := (HW (usc sc 8010 (sk tp (fA S) + 1)) ar 81 oc rl ou tl, q)) rfl ?_
          refine RQ.if2 (a := (lkm (lk tp (fA S)))) (b := 98) rfl rfl rfl rfl (by omega) (by omega) (fun _ => ?_) (fun (q : ¬ lkm (lk tp (fA S)) ≠ 98) => absurd (show lkm (lk tp (fA S)) ≠ 98 from by omega) q)
          refine RQ.seg 2 (pc' := 200) (L' := [some (.ref 80), some (.int (iI (lkm (lk tp (fA S))))), some (.int (iI 1)), some (.int (iI 0)), some (.ref 90), some (.retAddr 24), none, none]) (st' := [.int (iI 108), .int (iI (lkm (lk tp (fA S))))]) (g1 := (HW (usc sc 8010 (sk tp (fA S) + 1)) ar 81 oc rl ou tl, q)) rfl ?_
          refine RQ.if2 (a := (lkm (lk tp (fA S)))) (b := 108) rfl rfl rfl rfl (by omega) (by omega) (fun (q : lkm (lk tp (fA S)) ≠ 108) => absurd q (show ¬ lkm (lk tp (fA S)) ≠ 108 from by omega)) (fun _ => ?_)
          refine RQ.seg 7 (pc' := 215) (L' := [some (.ref 80), some (.int (iI (lkm (lk tp (fA S))))), some (.int (iI 1)), some (.int (iI 0)), some (.ref 90), some (.retAddr 24), some (.int (iI 0)), none]) (st' := [.retAddr 24, .int (iI 0)]) (g1 := (HW (usc (usc sc 8010 (sk tp (fA S) + 1)) 8028 1) ar 81 oc rl ou tl, q)) rfl ?_
          refine RQ.call rfl rfl (rv := some (.int (iI 4))) (Or.inl ⟨rfl, Or.inl ⟨rfl, by omega, 4, by decide, rfl, rfl⟩⟩) ?_
          refine RQ.seg 7 (pc' := 230) (L' := [some (.ref 80), some (.int (iI (lkm (lk tp (fA S))))), some (.int (iI 1)), some (.int (iI 0)), some (.ref 90), some (.retAddr 24), some (.int (iI 0)), none]) (st' := [.int (iI 0), .int (iI (lkm (lk tp (fA S)))), .int (iI 0), .ref 90]) (g1 := (HW (usc (usc sc 8010 (sk tp (fA S) + 1)) 8028 1) ar 81 oc rl ou tl, q)) rfl ?_
          refine RQ.call rfl rfl (CallR.up (d := 1) (m_usual_l (d := 0) (c := lkm (lk tp (fA S))) (j := 0) (by omega) (by omega)) (by omega)) ?_
          refine RQ.iast (z := 0) (v := (kc4 0)) (g1 := (HW (usc (usc sc 8010 (sk tp (fA S) + 1)) 8028 1) (usc ar 90 (usz (ar 90) 0 (kc4 0))) 81 oc rl ou tl, q)) rfl rfl rfl rfl (by omega) (by decide) (HWa_90 rfl) ?_
          refine RQ.seg 4 (pc' := 215) (L' := [some (.ref 80), some (.int (iI (lkm (lk tp (fA S))))), some (.int (iI 1)), some (.int (iI 0)), some (.ref 90), some (.retAddr 24), some (.int (iI 1)), none]) (st' := [.retAddr 24, .int (iI 1)]) (g1 := (HW (usc (usc sc 8010 (sk tp (fA S) + 1)) 8028 1) (usc ar 90 (usz (ar 90) 0 (kc4 0))) 81 oc rl ou tl, q)) rfl ?_
          refine RQ.call rfl rfl (rv := some (.int (iI 4))) (Or.inl ⟨rfl, Or.inl ⟨rfl, by omega, 4, by decide, rfl, rfl⟩⟩) ?_
          refine RQ.seg 7 (pc' := 230) (L' := [some (.ref 80), some (.int (iI (lkm (lk tp (fA S))))), some (.int (iI 1)), some (.int (iI 0)), some (.ref 90), some (.retAddr 24), some (.int (iI 1)), none]) (st' := [.int (iI 1), .int (iI (lkm (lk tp (fA S)))), .int (iI 1), .ref 90]) (g1 := (HW (usc (usc sc 8010 (sk tp (fA S) + 1)) 8028 1) (usc ar 90 (usz (ar 90) 0 (kc4 0))) 81 oc rl ou tl, q)) rfl ?_
          refine RQ.call rfl rfl (CallR.up (d := 1) (m_usual_l (d := 0) (c := lkm (lk tp (fA S))) (j := 1) (by omega) (by omega)) (by omega)) ?_
          refine RQ.iast (z := 1) (v := (kc4 1)) (g1 := (HW (usc (usc sc 8010 (sk tp (fA S) + 1)) 8028 1) (usc ar 90 (usz (usz (ar 90) 0 (kc4 0)) 1 (kc4 1))) 81 oc rl ou tl, q)) rfl rfl rfl rfl (by omega) (by decide) (HWa_90 (by funext j; unfold usc; cases hb : Nat.beq j 90 <;> first | rfl | (rw [Nat.eq_of_beq_eq_true hb]; rfl))) ?_
          refine RQ.seg 4 (pc' := 215) (L' := [some (.ref 80), some (.int (iI (lkm (lk tp (fA S))))), some (.int (iI 1)), some (.int (iI 0)), some (.ref 90), some (.retAddr 24), some (.int (iI 2)), none]) (st' := [.retAddr 24, .int (iI 2)]) (g1 := (HW (usc (usc sc 8010 (sk tp (fA S) + 1)) 8028 1) (usc ar 90 (usz (usz (ar 90) 0 (kc4 0)) 1 (kc4 1))) 81 oc rl ou tl, q)) rfl ?_
          refine RQ.call rfl rfl (rv := some (.int (iI 4))) (Or.inl ⟨rfl, Or.inl ⟨rfl, by omega, 4, by decide, rfl, rfl⟩⟩) ?_
          refine RQ.seg 7 (pc' := 230) (L' := [some (.ref 80), some (.int (iI (lkm (lk tp (fA S))))), some (.int (iI 1)), some (.int (iI 0)), some (.ref 90), some (.retAddr 24), some (.int (iI 2)), none]) (st' := [.int (iI 2), .int (iI (lkm (lk tp (fA S)))), .int (iI 2), .ref 90]) (g1 := (HW (usc (usc sc 8010 (sk tp (fA S) + 1)) 8028 1) (usc ar 90 (usz (usz (ar 90) 0 (kc4 0)) 1 (kc4 1))) 81 oc rl ou tl, q)) rfl ?_
          refine RQ.call rfl rfl (CallR.up (d := 1) (m_usual_l (d := 0) (c := lkm (lk tp (fA S))) (j := 2) (by omega) (by omega)) (by omega)) ?_
          refine RQ.iast (z := 2) (v := (kc4 2)) (g1 := (HW (usc (usc sc 8010 (sk tp (fA S) + 1)) 8028 1) (usc ar 90 (usz (usz (usz (ar 90) 0 (kc4 0)) 1 (kc4 1)) 2 (kc4 2))) 81 oc rl ou tl, q)) rfl rfl rfl rfl (by omega) (by decide) (HWa_90 (by funext j; unfold usc; cases hb : Nat.beq j 90 <;> first | rfl | (rw [Nat.eq_of_beq_eq_true hb]; rfl))) ?_
          refine RQ.seg 4 (pc' := 215) (L' := [some (.ref 80), some (.int (iI (lkm (lk tp (fA S))))), some (.int (iI 1)), some (.int (iI 0)), some (.ref 90), some (.retAddr 24), some (.int (iI 3)), none]) (st' := [.retAddr 24, .int (iI 3)]) (g1 := (HW (usc (usc sc 8010 (sk tp (fA S) + 1)) 8028 1) (usc ar 90 (usz (usz (usz (ar 90) 0 (kc4 0)) 1 (kc4 1)) 2 (kc4 2))) 81 oc rl ou tl, q)) rfl ?_
          refine RQ.call rfl rfl (rv := some (.int (iI 4))) (Or.inl ⟨rfl, Or.inl ⟨rfl, by omega, 4, by decide, rfl, rfl⟩⟩) ?_
          refine RQ.seg 7 (pc' := 230) (L' := [some (.ref 80), some (.int (iI (lkm (lk tp (fA S))))), some (.int (iI 1)), some (.int (iI 0)), some (.ref 90), some (.retAddr 24), some (.int (iI 3)), none]) (st' := [.int (iI 3), .int (iI (lkm (lk tp (fA S)))), .int (iI 3), .ref 90]) (g1 := (HW (usc (usc sc 8010 (sk tp (fA S) + 1)) 8028 1) (usc ar 90 (usz (usz (usz (ar 90) 0 (kc4 0)) 1 (kc4 1)) 2 (kc4 2))) 81 oc rl ou tl, q)) rfl ?_
          refine RQ.call rfl rfl (CallR.up (d := 1) (m_usual_l (d := 0) (c := lkm (lk tp (fA S))) (j := 3) (by omega) (by omega)) (by omega)) ?_
          refine RQ.iast (z := 3) (v := (kc4 3)) (g1 := (HW (usc (usc sc 8010 (sk tp (fA S) + 1)) 8028 1) (usc ar 90 (usz (usz (usz (usz (ar 90) 0 (kc4 0)) 1 (kc4 1)) 2 (kc4 2)) 3 (kc4 3))) 81 oc rl ou tl, q)) rfl rfl rfl rfl (by omega) (by decide) (HWa_90 (by funext j; unfold usc; cases hb : Nat.beq j 90 <;> first | rfl | (rw [Nat.eq_of_beq_eq_true hb]; rfl))) ?_
          refine RQ.seg 4 (pc' := 215) (L' := [some (.ref 80), some (.int (iI (lkm (lk tp (fA S))))), some (.int (iI 1)), some (.int (iI 0)), some (.ref 90), some (.retAddr 24), some (.int (iI 4)), none]) (st' := [.retAddr 24, .int (iI 4)]) (g1 := (HW (usc (usc sc 8010 (sk tp (fA S) + 1)) 8028 1) (usc ar 90 (usz (usz (usz (usz (ar 90) 0 (kc4 0)) 1 (kc4 1)) 2 (kc4 2)) 3 (kc4 3))) 81 oc rl ou tl, q)) rfl ?_
          refine RQ.call rfl rfl (rv := some (.int (iI 4))) (Or.inl ⟨rfl, Or.inl ⟨rfl, by omega, 4, by decide, rfl, rfl⟩⟩) ?_
          refine RQ.seg 5 (pc' := 246) (L' := [some (.ref 80), some (.int (iI (lkm (lk tp (fA S))))), some (.int (iI 1)), some (.int (iI 0)), some (.ref 90), some (.retAddr 24), some (.int (iI 0)), none]) (st' := [.ref 80, .retAddr 24]) (g1 := (HW (usc (usc sc 8010 (sk tp (fA S) + 1)) 8028 1) (usc ar 90 (usz (usz (usz (usz (ar 90) 0 (kc4 0)) 1 (kc4 1)) 2 (kc4 2)) 3 (kc4 3))) 81 oc rl ou tl, q)) rfl ?_
          have hsk2 := sk_r (tp := tp) (p := sk tp (fA S) + 1) (by omega)
          have hlr2 := tch_r ht (sk tp (sk tp (fA S) + 1))
          have hlk2 : 0 ≤ lk tp (sk tp (fA S) + 1) ∧ lk tp (sk tp (fA S) + 1) ≤ 255 := hlr2
          have hlm2 := lkm_r hlk2
          refine RQ.call rfl rfl (CallR.up (d := 1) (m_look81 (d := 0) (sc := usc (usc sc 8010 (sk tp (fA S) + 1)) 8028 1) (ar := usc ar 90 (usz (usz (usz (usz (ar 90) 0 (kc4 0)) 1 (kc4 1)) 2 (kc4 2)) 3 (kc4 3))) (a := sk tp (fA S) + 1) ht hv rfl (by omega)) (by omega)) ?_
          refine RQ.hp (g1 := (HW (usc (usc sc 8010 (sk tp (sk tp (fA S) + 1))) 8028 1) (usc ar 90 (usz (usz (usz (usz (ar 90) 0 (kc4 0)) 1 (kc4 1)) 2 (kc4 2)) 3 (kc4 3))) 81 oc rl ou tl, q)) (HW_e (by rw [usc_sw _ 8028 8010 _ _ rfl, usc_uu _ 8010 _ _]; try rfl) rfl) ?_
          refine RQ.call rfl rfl (CallR.up (d := 5) (m_place_pl (d := 0) (c := lkm (lk tp (sk tp (fA S) + 1))) (by omega)) (by omega)) ?_
          rw [pl_m]
          refine RQ.seg 1 (pc' := 254) (L' := [some (.ref 80), some (.int (iI (lkm (lk tp (fA S))))), some (.int (iI 1)), some (.int (iI 0)), some (.ref 90), some (.retAddr 24), some (.int (iI 0)), some (.int (iI (pl (lk tp (sk tp (fA S) + 1)))))]) (st' := []) (g1 := (HW (usc (usc sc 8010 (sk tp (sk tp (fA S) + 1))) 8028 1) (usc ar 90 (usz (usz (usz (usz (ar 90) 0 (kc4 0)) 1 (kc4 1)) 2 (kc4 2)) 3 (kc4 3))) 81 oc rl ou tl, q)) rfl ?_
          refine RQ.hp (g1 := (HW (usc (usc (usc sc 8010 (sk tp (sk tp (fA S) + 1))) 8011 (-1)) 8028 1) (usc ar 90 (usz (usz (usz (usz (ar 90) 0 (kc4 0)) 1 (kc4 1)) 2 (kc4 2)) 3 (kc4 3))) 81 oc rl ou tl, q)) (HW_e (show usc (usc sc 8010 (sk tp (sk tp (fA S) + 1))) 8028 1 = usc (usc (usc sc 8010 (sk tp (sk tp (fA S) + 1))) 8011 (-1)) 8028 1 by funext k9; by_cases e9 : k9 = 8011; (subst e9; exact h0); (unfold usc; rw [beqf e9]; rfl)) rfl) ?_
          refine RQ.hp (g1 := (HW (usc (usc (usc sc 8028 1) 8010 (sk tp (sk tp (fA S) + 1))) 8011 (-1)) (usc ar 90 (usz (usz (usz (usz (ar 90) 0 (kc4 0)) 1 (kc4 1)) 2 (kc4 2)) 3 (kc4 3))) 81 oc rl ou tl, q)) (HW_e (show usc (usc (usc sc 8010 (sk tp (sk tp (fA S) + 1))) 8011 (-1)) 8028 1 = usc (usc (usc sc 8028 1) 8010 (sk tp (sk tp (fA S) + 1))) 8011 (-1) by repeat (first | rfl | rw [usc_sw _ 8011 8028 _ _ rfl, usc_sw _ 8010 8028 _ _ rfl])) rfl) ?_
          refine m_itl_l (sc := usc sc 8028 1) (ar := ar) (c := lkm (lk tp (fA S))) (ro := 0) (f0 := ar 90) ht hv (by omega) (by omega) 5 0 (sk tp (fA S) + 1) (usz (usz (usz (usz (ar 90) 0 (kc4 0)) 1 (kc4 1)) 2 (kc4 2)) 3 (kc4 3)) kc4 (by decide) (by decide) (by omega) (fun j j0 j1 => ?_) (fun i hi9 => ?_) (fun a' w' f' q1 q2 q3 q4 q5 => ?_)
          · rcases (show j = 0 ∨ j = 1 ∨ j = 2 ∨ j = 3 by omega) with rfl | rfl | rfl | rfl <;> (repeat (first | rw [Int.zero_add] | rw [usz_s] | rw [usz_n (by omega)]))
          · (repeat (first | rw [usz_n (by omega)]))
          have eT : cls tp S = ((iL tp (sk tp (fA S) + 1)).1, (iL tp (sk tp (fA S) + 1)).2.1, fW S, fB S, 1, gW S, gB S, (iL tp (sk tp (fA S) + 1)).2.2) := by unfold cls; rw [if_neg (by omega), if_neg (by omega), if_pos (by omega)]
          rw [eT]
          exact ⟨rfl, _, _, rfl, (by repeat (first | exact Same.rf | refine Same.us rfl ?_)), (by repeat (first | exact Same.rf | refine Same.us rfl ?_)), q3, fun z9 => ⟨(q4 z9).1, rfl, y3, y4, y5, y6, (fun j j0 j1 => by have := (q4 z9).2 j j0 j1; rw [Int.zero_add] at this; exact this)⟩, q2, q1⟩
    · skip
      refine RQ.seg 2 (pc' := 29) (L' := [some (.ref 80), some (.int (iI (lkm (lk tp (fA S))))), none, none, none, none, none, none]) (st' := [.int (iI (sc 8027))]) (g1 := (HW (usc sc 8010 (sk tp (fA S))) ar 81 oc rl ou tl, q)) rfl ?_
      refine RQ.to (L' := [some (.ref 80), some (.int (iI (lkm (lk tp (fA S))))), none, none, none, none, none, none]) (st' := [.int (iI (fB S))]) rfl (by rw [show sc 8027 = fB S from y4]) ?_
      refine RQ.seg 1 (pc' := 30) (L' := [some (.ref 80), some (.int (iI (lkm (lk tp (fA S))))), none, none, none, none, none, none]) (st' := [.int (iI 3), .int (iI (fB S))]) (g1 := (HW (usc sc 8010 (sk tp (fA S))) ar 81 oc rl ou tl, q)) rfl ?_
      refine RQ.if2 (a := (fB S)) (b := 3) rfl rfl rfl rfl (by omega) (by omega) (fun (h14 : fB S < 3) => ?_) (fun (h14 : ¬ fB S < 3) => ?_)
      · skip
        have hkp := tch_pos (tp := tp) (p := sk tp (fA S)) (by show lk tp (fA S) ≠ 0; omega)
        refine RQ.seg 10 (pc' := 69) (L' := [some (.ref 80), some (.int (iI (lkm (lk tp (fA S))))), some (.int (iI 1)), none, none, none, none, none]) (st' := [.int ((iI (sk tp (fA S))) + (iI 1)), .ref 80]) (g1 := (HW (usc sc 8010 (sk tp (fA S))) ar 81 oc rl ou tl, q)) rfl ?_
        refine RQ.to (L' := [some (.ref 80), some (.int (iI (lkm (lk tp (fA S))))), some (.int (iI 1)), none, none, none, none, none]) (st' := [.int (iI (sk tp (fA S) + 1)), .ref 80]) rfl (by simp only [iI_add, iI_sub, iI_mul, iI_neg]) ?_
        refine RQ.seg 3 (pc' := 75) (L' := [some (.ref 80), some (.int (iI (lkm (lk tp (fA S))))), some (.int (iI 1)), none, none, none, none, none]) (st' := [.int (iI 119), .int (iI (lkm (lk tp (fA S))))]) (g1 := (HW (usc sc 8010 (sk tp (fA S) + 1)) ar 81 oc rl ou tl, q)) rfl ?_
        refine RQ.if2 (a := (lkm (lk tp (fA S)))) (b := 119) rfl rfl rfl rfl (by omega) (by omega) (fun _ => ?_) (fun (q : ¬ lkm (lk tp (fA S)) ≠ 119) => absurd (show lkm (lk tp (fA S)) ≠ 119 from by omega) q)
        refine RQ.seg 2 (pc' := 90) (L' := [some (.ref 80), some (.int (iI (lkm (lk tp (fA S))))), some (.int (iI 1)), none, none, none, none, none]) (st' := [.int (iI 98), .int (iI (lkm (lk tp (fA S))))]) (g1 := (HW (usc sc 8010 (sk tp (fA S) + 1)) ar 81 oc rl ou tl, q)) rfl ?_
        refine RQ.if2 (a := (lkm (lk tp (fA S)))) (b := 98) rfl rfl rfl rfl (by omega) (by omega) (fun (q : lkm (lk tp (fA S)) ≠ 98) => absurd q (show ¬ lkm (lk tp (fA S)) ≠ 98 from by omega)) (fun _ => ?_)
        refine RQ.seg 3 (pc' := 98) (L' := [some (.ref 80), some (.int (iI (lkm (lk tp (fA S))))), some (.int (iI 1)), none, none, none, none, none]) (st' := [.int (iI (sc 8027)), .int (iI 3)]) (g1 := (HW (usc sc 8010 (sk tp (fA S) + 1)) ar 81 oc rl ou tl, q)) rfl ?_
        refine RQ.to (L' := [some (.ref 80), some (.int (iI (lkm (lk tp (fA S))))), some (.int (iI 1)), none, none, none, none, none]) (st' := [.int (iI (fB S)), .int (iI 3)]) rfl (by rw [show sc 8027 = fB S from y4]) ?_
        refine RQ.seg 5 (pc' := 107) (L' := [some (.ref 80), some (.int (iI (lkm (lk tp (fA S))))), some (.int (iI 1)), some (.int ((iI 3) * (iI (fB S)))), none, none, none, none]) (st' := [.int (iI 119), .int (iI (lkm (lk tp (fA S))))]) (g1 := (HW (usc sc 8010 (sk tp (fA S) + 1)) ar 81 oc rl ou tl, q)) rfl ?_
        refine RQ.if2 (a := (lkm (lk tp (fA S)))) (b := 119) rfl rfl rfl rfl (by omega) (by omega) (fun _ => ?_) (fun (q : ¬ lkm (lk tp (fA S)) ≠ 119) => absurd (show lkm (lk tp (fA S)) ≠ 119 from by omega) q)
        refine RQ.seg 2 (pc' := 120) (L' := [some (.ref 80), some (.int (iI (lkm (lk tp (fA S))))), some (.int (iI 1)), some (.int ((iI 3) * (iI (fB S)))), none, none, none, none]) (st' := [.int (iI 98), .int (iI (lkm (lk tp (fA S))))]) (g1 := (HW (usc sc 8010 (sk tp (fA S) + 1)) ar 81 oc rl ou tl, q)) rfl ?_
        refine RQ.if2 (a := (lkm (lk tp (fA S)))) (b := 98) rfl rfl rfl rfl (by omega) (by omega) (fun (q : lkm (lk tp (fA S)) ≠ 98) => absurd q (show ¬ lkm (lk tp (fA S)) ≠ 98 from by omega)) (fun _ => ?_)
        refine RQ.seg 6 (pc' := 139) (L' := [some (.ref 80), some (.int (iI (lkm (lk tp (fA S))))), some (.int (iI 1)), some (.int ((iI 3) * (iI (fB S)))), some (.ref 89), none, none, none]) (st' := [.int (iI 119), .int (iI (lkm (lk tp (fA S))))]) (g1 := (HW (usc sc 8010 (sk tp (fA S) + 1)) ar 81 oc rl ou tl, q)) rfl ?_
        refine RQ.if2 (a := (lkm (lk tp (fA S)))) (b := 119) rfl rfl rfl rfl (by omega) (by omega) (fun _ => ?_) (fun (q : ¬ lkm (lk tp (fA S)) ≠ 119) => absurd (show lkm (lk tp (fA S)) ≠ 119 from by omega) q)
        refine RQ.seg 2 (pc' := 151) (L' := [some (.ref 80), some (.int (iI (lkm (lk tp (fA S))))), some (.int (iI 1)), some (.int ((iI 3) * (iI (fB S)))), some (.ref 89), none, none, none]) (st' := [.int (iI 98), .int (iI (lkm (lk tp (fA S))))]) (g1 := (HW (usc sc 8010 (sk tp (fA S) + 1)) ar 81 oc rl ou tl, q)) rfl ?_
        refine RQ.if2 (a := (lkm (lk tp (fA S)))) (b := 98) rfl rfl rfl rfl (by omega) (by omega) (fun (q : lkm (lk tp (fA S)) ≠ 98) => absurd q (show ¬ lkm (lk tp (fA S)) ≠ 98 from by omega)) (fun _ => ?_)
        refine RQ.seg 5 (pc' := 168) (L' := [some (.ref 80), some (.int (iI (lkm (lk tp (fA S))))), some (.int (iI 1)), some (.int ((iI 3) * (iI (fB S)))), some (.ref 89), some (.retAddr 23), none, none]) (st' := [.int (iI 119), .int (iI (lkm (lk tp (fA S))))]) (g1 := (HW (usc sc 8010 (sk tp (fA S) + 1)) ar 81 oc rl ou tl, q)) rfl ?_
        refine RQ.if2 (a := (lkm (lk tp (fA S)))) (b := 119) rfl rfl rfl rfl (by omega) (by omega) (fun _ => ?_) (fun (q : ¬ lkm (lk tp (fA S)) ≠ 119) => absurd (show lkm (lk tp (fA S)) ≠ 119 from by omega) q)
        refine RQ.seg 2 (pc' := 184) (L' := [some (.ref 80), some (.int (iI (lkm (lk tp (fA S))))), some (.int (iI 1)), some (.int ((iI 3) * (iI (fB S)))), some (.ref 89), some (.retAddr 23), none, none]) (st' := [.int (iI 98), .int (iI (lkm (lk tp (fA S))))]) (g1 := (HW (usc sc 8010 (sk tp (fA S) + 1)) ar 81 oc rl ou tl, q)) rfl ?_
        refine RQ.if2 (a := (lkm (lk tp (fA S)))) (b := 98) rfl rfl rfl rfl (by omega) (by omega) (fun (q : lkm (lk tp (fA S)) ≠ 98) => absurd q (show ¬ lkm (lk tp (fA S)) ≠ 98 from by omega)) (fun _ => ?_)
        refine RQ.seg 3 (pc' := 192) (L' := [some (.ref 80), some (.int (iI (lkm (lk tp (fA S))))), some (.int (iI 1)), some (.int ((iI 3) * (iI (fB S)))), some (.ref 89), some (.retAddr 23), none, none]) (st' := [.int (iI (sc 8027)), .ref 80]) (g1 := (HW (usc sc 8010 (sk tp (fA S) + 1)) ar 81 oc rl ou tl, q)) rfl ?_
        refine RQ.to (L' := [some (.ref 80), some (.int (iI (lkm (lk tp (fA S))))), some (.int (iI 1)), some (.int ((iI 3) * (iI (fB S)))), some (.ref 89), some (.retAddr 23), none, none]) (st' := [.int (iI (fB S)), .ref 80]) rfl (by rw [show sc 8027 = fB S from y4]) ?_
        refine RQ.seg 2 (pc' := 194) (L' := [some (.ref 80), some (.int (iI (lkm (lk tp (fA S))))), some (.int (iI 1)), some (.int ((iI 3) * (iI (fB S)))), some (.ref 89), some (.retAddr 23), none, none]) (st' := [.int ((iI (fB S)) + (iI 1)), .ref 80]) (g1 := (HW (usc sc 8010 (sk tp (fA S) + 1)) ar 81 oc rl ou tl, q)) rfl ?_
        refine RQ.to (L' := [some (.ref 80), some (.int (iI (lkm (lk tp (fA S))))), some (.int (iI 1)), some (.int (iI (3 * (fB S)))), some (.ref 89), some (.retAddr 23), none, none]) (st' := [.int (iI (fB S + 1)), .ref 80]) (by simp only [iI_add, iI_sub, iI_mul, iI_neg]) (by simp only [iI_add, iI_sub, iI_mul, iI_neg]) ?_
        refine RQ.seg 3 (pc' := 200) (L' := [some (.ref 80), some (.int (iI (lkm (lk tp (fA S))))), some (.int (iI 1)), some (.int (iI (3 * (fB S)))), some (.ref 89), some (.retAddr 23), none, none]) (st' := [.int (iI 108), .int (iI (lkm (lk tp (fA S))))]) (g1 := (HW (usc (usc sc 8010 (sk tp (fA S) + 1)) 8027 (fB S + 1)) ar 81 oc rl ou tl, q)) rfl ?_
        refine RQ.if2 (a := (lkm (lk tp (fA S)))) (b := 108) rfl rfl rfl rfl (by omega) (by omega) (fun _ => ?_) (fun (q : ¬ lkm (lk tp (fA S)) ≠ 108) => absurd (show lkm (lk tp (fA S)) ≠ 108 from by omega) q)
        refine RQ.seg 4 (pc' := 215) (L' := [some (.ref 80), some (.int (iI (lkm (lk tp (fA S))))), some (.int (iI 1)), some (.int (iI (3 * (fB S)))), some (.ref 89), some (.retAddr 23), some (.int (iI 0)), none]) (st' := [.retAddr 23, .int (iI 0)]) (g1 := (HW (usc (usc sc 8010 (sk tp (fA S) + 1)) 8027 (fB S + 1)) ar 81 oc rl ou tl, q)) rfl ?_
        refine RQ.call rfl rfl (rv := some (.int (iI 3))) (Or.inl ⟨rfl, Or.inl ⟨rfl, by omega, 3, by decide, rfl, rfl⟩⟩) ?_
        refine RQ.seg 7 (pc' := 230) (L' := [some (.ref 80), some (.int (iI (lkm (lk tp (fA S))))), some (.int (iI 1)), some (.int (iI (3 * (fB S)))), some (.ref 89), some (.retAddr 23), some (.int (iI 0)), none]) (st' := [.int (iI 0), .int (iI (lkm (lk tp (fA S)))), .int ((iI (3 * (fB S))) + (iI 0)), .ref 89]) (g1 := (HW (usc (usc sc 8010 (sk tp (fA S) + 1)) 8027 (fB S + 1)) ar 81 oc rl ou tl, q)) rfl ?_
        refine RQ.to (L' := [some (.ref 80), some (.int (iI (lkm (lk tp (fA S))))), some (.int (iI 1)), some (.int (iI (3 * (fB S)))), some (.ref 89), some (.retAddr 23), some (.int (iI 0)), none]) (st' := [.int (iI 0), .int (iI (lkm (lk tp (fA S)))), .int (iI (3 * (fB S) + 0)), .ref 89]) rfl (by simp only [iI_add, iI_sub, iI_mul, iI_neg]) ?_
        refine RQ.call rfl rfl (CallR.up (d := 1) (m_usual_b (d := 0) (c := lkm (lk tp (fA S))) (j := 0) (by omega) (by omega)) (by omega)) ?_
        refine RQ.iast (z := (3 * (fB S) + 0)) (v := (kc8 0)) (g1 := (HW (usc (usc sc 8010 (sk tp (fA S) + 1)) 8027 (fB S + 1)) (usc ar 89 (usz (ar 89) (3 * (fB S) + 0) (kc8 0))) 81 oc rl ou tl, q)) rfl rfl rfl rfl (by omega) (by decide) (HWa_89 rfl) ?_
        refine RQ.seg 4 (pc' := 215) (L' := [some (.ref 80), some (.int (iI (lkm (lk tp (fA S))))), some (.int (iI 1)), some (.int (iI (3 * (fB S)))), some (.ref 89), some (.retAddr 23), some (.int (iI 1)), none]) (st' := [.retAddr 23, .int (iI 1)]) (g1 := (HW (usc (usc sc 8010 (sk tp (fA S) + 1)) 8027 (fB S + 1)) (usc ar 89 (usz (ar 89) (3 * (fB S) + 0) (kc8 0))) 81 oc rl ou tl, q)) rfl ?_
        refine RQ.call rfl rfl (rv := some (.int (iI 3))) (Or.inl ⟨rfl, Or.inl ⟨rfl, by omega, 3, by decide, rfl, rfl⟩⟩) ?_
        refine RQ.seg 7 (pc' := 230) (L' := [some (.ref 80), some (.int (iI (lkm (lk tp (fA S))))), some (.int (iI 1)), some (.int (iI (3 * (fB S)))), some (.ref 89), some (.retAddr 23), some (.int (iI 1)), none]) (st' := [.int (iI 1), .int (iI (lkm (lk tp (fA S)))), .int ((iI (3 * (fB S))) + (iI 1)), .ref 89]) (g1 := (HW (usc (usc sc 8010 (sk tp (fA S) + 1)) 8027 (fB S + 1)) (usc ar 89 (usz (ar 89) (3 * (fB S) + 0) (kc8 0))) 81 oc rl ou tl, q)) rfl ?_
        refine RQ.to (L' := [some (.ref 80), some (.int (iI (lkm (lk tp (fA S))))), some (.int (iI 1)), some (.int (iI (3 * (fB S)))), some (.ref 89), some (.retAddr 23), some (.int (iI 1)), none]) (st' := [.int (iI 1), .int (iI (lkm (lk tp (fA S)))), .int (iI (3 * (fB S) + 1)), .ref 89]) rfl (by simp only [iI_add, iI_sub, iI_mul, iI_neg]) ?_
        refine RQ.call rfl rfl (CallR.up (d := 1) (m_usual_b (d := 0) (c := lkm (lk tp (fA S))) (j := 1) (by omega) (by omega)) (by omega)) ?_
        refine RQ.iast (z := (3 * (fB S) + 1)) (v := (kc8 1)) (g1 := (HW (usc (usc sc 8010 (sk tp (fA S) + 1)) 8027 (fB S + 1)) (usc ar 89 (usz (usz (ar 89) (3 * (fB S) + 0) (kc8 0)) (3 * (fB S) + 1) (kc8 1))) 81 oc rl ou tl, q)) rfl rfl rfl rfl (by omega) (by decide) (HWa_89 (by funext j; unfold usc; cases hb : Nat.beq j 89 <;> first | rfl | (rw [Nat.eq_of_beq_eq_true hb]; rfl))) ?_
        refine RQ.seg 4 (pc' := 215) (L' := [some (.ref 80), some (.int (iI (lkm (lk tp (fA S))))), some (.int (iI 1)), some (.int (iI (3 * (fB S)))), some (.ref 89), some (.retAddr 23), some (.int (iI 2)), none]) (st' := [.retAddr 23, .int (iI 2)]) (g1 := (HW (usc (usc sc 8010 (sk tp (fA S) + 1)) 8027 (fB S + 1)) (usc ar 89 (usz (usz (ar 89) (3 * (fB S) + 0) (kc8 0)) (3 * (fB S) + 1) (kc8 1))) 81 oc rl ou tl, q)) rfl ?_
        refine RQ.call rfl rfl (rv := some (.int (iI 3))) (Or.inl ⟨rfl, Or.inl ⟨rfl, by omega, 3, by decide, rfl, rfl⟩⟩) ?_
        refine RQ.seg 7 (pc' := 230) (L' := [some (.ref 80), some (.int (iI (lkm (lk tp (fA S))))), some (.int (iI 1)), some (.int (iI (3 * (fB S)))), some (.ref 89), some (.retAddr 23), some (.int (iI 2)), none]) (st' := [.int (iI 2), .int (iI (lkm (lk tp (fA S)))), .int ((iI (3 * (fB S))) + (iI 2)), .ref 89]) (g1 := (HW (usc (usc sc 8010 (sk tp (fA S) + 1)) 8027 (fB S + 1)) (usc ar 89 (usz (usz (ar 89) (3 * (fB S) + 0) (kc8 0)) (3 * (fB S) + 1) (kc8 1))) 81 oc rl ou tl, q)) rfl ?_
        refine RQ.to (L' := [some (.ref 80), some (.int (iI (lkm (lk tp (fA S))))), some (.int (iI 1)), some (.int (iI (3 * (fB S)))), some (.ref 89), some (.retAddr 23), some (.int (iI 2)), none]) (st' := [.int (iI 2), .int (iI (lkm (lk tp (fA S)))), .int (iI (3 * (fB S) + 2)), .ref 89]) rfl (by simp only [iI_add, iI_sub, iI_mul, iI_neg]) ?_
        refine RQ.call rfl rfl (CallR.up (d := 1) (m_usual_b (d := 0) (c := lkm (lk tp (fA S))) (j := 2) (by omega) (by omega)) (by omega)) ?_
        refine RQ.iast (z := (3 * (fB S) + 2)) (v := (kc8 2)) (g1 := (HW (usc (usc sc 8010 (sk tp (fA S) + 1)) 8027 (fB S + 1)) (usc ar 89 (usz (usz (usz (ar 89) (3 * (fB S) + 0) (kc8 0)) (3 * (fB S) + 1) (kc8 1)) (3 * (fB S) + 2) (kc8 2))) 81 oc rl ou tl, q)) rfl rfl rfl rfl (by omega) (by decide) (HWa_89 (by funext j; unfold usc; cases hb : Nat.beq j 89 <;> first | rfl | (rw [Nat.eq_of_beq_eq_true hb]; rfl))) ?_
        refine RQ.seg 4 (pc' := 215) (L' := [some (.ref 80), some (.int (iI (lkm (lk tp (fA S))))), some (.int (iI 1)), some (.int (iI (3 * (fB S)))), some (.ref 89), some (.retAddr 23), some (.int (iI 3)), none]) (st' := [.retAddr 23, .int (iI 3)]) (g1 := (HW (usc (usc sc 8010 (sk tp (fA S) + 1)) 8027 (fB S + 1)) (usc ar 89 (usz (usz (usz (ar 89) (3 * (fB S) + 0) (kc8 0)) (3 * (fB S) + 1) (kc8 1)) (3 * (fB S) + 2) (kc8 2))) 81 oc rl ou tl, q)) rfl ?_
        refine RQ.call rfl rfl (rv := some (.int (iI 3))) (Or.inl ⟨rfl, Or.inl ⟨rfl, by omega, 3, by decide, rfl, rfl⟩⟩) ?_
        refine RQ.seg 5 (pc' := 246) (L' := [some (.ref 80), some (.int (iI (lkm (lk tp (fA S))))), some (.int (iI 1)), some (.int (iI (3 * (fB S)))), some (.ref 89), some (.retAddr 23), some (.int (iI 0)), none]) (st' := [.ref 80, .retAddr 23]) (g1 := (HW (usc (usc sc 8010 (sk tp (fA S) + 1)) 8027 (fB S + 1)) (usc ar 89 (usz (usz (usz (ar 89) (3 * (fB S) + 0) (kc8 0)) (3 * (fB S) + 1) (kc8 1)) (3 * (fB S) + 2) (kc8 2))) 81 oc rl ou tl, q)) rfl ?_
        have hsk2 := sk_r (tp := tp) (p := sk tp (fA S) + 1) (by omega)
        have hlr2 := tch_r ht (sk tp (sk tp (fA S) + 1))
        have hlk2 : 0 ≤ lk tp (sk tp (fA S) + 1) ∧ lk tp (sk tp (fA S) + 1) ≤ 255 := hlr2
        have hlm2 := lkm_r hlk2
        refine RQ.call rfl rfl (CallR.up (d := 1) (m_look81 (d := 0) (sc := usc (usc sc 8010 (sk tp (fA S) + 1)) 8027 (fB S + 1)) (ar := usc ar 89 (usz (usz (usz (ar 89) (3 * (fB S) + 0) (kc8 0)) (3 * (fB S) + 1) (kc8 1)) (3 * (fB S) + 2) (kc8 2))) (a := sk tp (fA S) + 1) ht hv rfl (by omega)) (by omega)) ?_
        refine RQ.hp (g1 := (HW (usc (usc sc 8010 (sk tp (sk tp (fA S) + 1))) 8027 (fB S + 1)) (usc ar 89 (usz (usz (usz (ar 89) (3 * (fB S) + 0) (kc8 0)) (3 * (fB S) + 1) (kc8 1)) (3 * (fB S) + 2) (kc8 2))) 81 oc rl ou tl, q)) (HW_e (by rw [usc_sw _ 8027 8010 _ _ rfl, usc_uu _ 8010 _ _]; try rfl) rfl) ?_
        refine RQ.call rfl rfl (CallR.up (d := 5) (m_place_pb (d := 0) (c := lkm (lk tp (sk tp (fA S) + 1))) (by omega)) (by omega)) ?_
        rw [pb_m]
        refine RQ.seg 1 (pc' := 254) (L' := [some (.ref 80), some (.int (iI (lkm (lk tp (fA S))))), some (.int (iI 1)), some (.int (iI (3 * (fB S)))), some (.ref 89), some (.retAddr 23), some (.int (iI 0)), some (.int (iI (pb (lk tp (sk tp (fA S) + 1)))))]) (st' := []) (g1 := (HW (usc (usc sc 8010 (sk tp (sk tp (fA S) + 1))) 8027 (fB S + 1)) (usc ar 89 (usz (usz (usz (ar 89) (3 * (fB S) + 0) (kc8 0)) (3 * (fB S) + 1) (kc8 1)) (3 * (fB S) + 2) (kc8 2))) 81 oc rl ou tl, q)) rfl ?_
        refine RQ.hp (g1 := (HW (usc (usc (usc sc 8010 (sk tp (sk tp (fA S) + 1))) 8011 (-1)) 8027 (fB S + 1)) (usc ar 89 (usz (usz (usz (ar 89) (3 * (fB S) + 0) (kc8 0)) (3 * (fB S) + 1) (kc8 1)) (3 * (fB S) + 2) (kc8 2))) 81 oc rl ou tl, q)) (HW_e (show usc (usc sc 8010 (sk tp (sk tp (fA S) + 1))) 8027 (fB S + 1) = usc (usc (usc sc 8010 (sk tp (sk tp (fA S) + 1))) 8011 (-1)) 8027 (fB S + 1) by funext k9; by_cases e9 : k9 = 8011; (subst e9; exact h0); (unfold usc; rw [beqf e9]; rfl)) rfl) ?_
        refine RQ.hp (g1 := (HW (usc (usc (usc sc 8027 (fB S + 1)) 8010 (sk tp (sk tp (fA S) + 1))) 8011 (-1)) (usc ar 89 (usz (usz (usz (ar 89) (3 * (fB S) + 0) (kc8 0)) (3 * (fB S) + 1) (kc8 1)) (3 * (fB S) + 2) (kc8 2))) 81 oc rl ou tl, q)) (HW_e (show usc (usc (usc sc 8010 (sk tp (sk tp (fA S) + 1))) 8011 (-1)) 8027 (fB S + 1) = usc (usc (usc sc 8027 (fB S + 1)) 8010 (sk tp (sk tp (fA S) + 1))) 8011 (-1) by repeat (first | rfl | rw [usc_sw _ 8011 8027 _ _ rfl, usc_sw _ 8010 8027 _ _ rfl])) rfl) ?_
        refine m_itb_l (sc := usc sc 8027 (fB S + 1)) (ar := ar) (c := lkm (lk tp (fA S))) (ro := 3 * fB S) (f0 := ar 89) ht hv (by omega) (by omega) 4 0 (sk tp (fA S) + 1) (usz (usz (usz (ar 89) (3 * (fB S) + 0) (kc8 0)) (3 * (fB S) + 1) (kc8 1)) (3 * (fB S) + 2) (kc8 2)) kc8 (by decide) (by decide) (by omega) (fun j j0 j1 => ?_) (fun i hi9 => ?_) (fun a' w' f' q1 q2 q3 q4 q5 => ?_)
        · rcases (show j = 0 ∨ j = 1 ∨ j = 2 by omega) with rfl | rfl | rfl <;> (repeat (first | rw [Int.zero_add] | rw [usz_s] | rw [usz_n (by omega)]))
        · (repeat (first | rw [usz_n (by omega)]))
        have eT : cls tp S = ((iB tp (sk tp (fA S) + 1)).1, (iB tp (sk tp (fA S) + 1)).2.1, fW S, fB S + 1, fL S, gW S, usf (gB S) (fB S) (iB tp (sk tp (fA S) + 1)).2.2, gL S) := by unfold cls; rw [if_neg (by omega), if_pos (by omega)]
        rw [eT]
        exact ⟨rfl, _, _, rfl, (by repeat (first | exact Same.rf | refine Same.us rfl ?_)), (by repeat (first | exact Same.rf | refine Same.us rfl ?_)), q3, fun z9 => ⟨(q4 z9).1, y2, y3, rfl, y5, (fun w9 j w0 w1 j0 j1 => by by_cases e9 : w9 = fB S; (subst e9; show f' (3 * fB S + j) = usf (gB S) (fB S) _ (fB S) j; rw [usf_s]; exact (q4 z9).2 j j0 j1); (show f' (3 * w9 + j) = usf (gB S) (fB S) _ w9 j; rw [usf_n e9, q5 _ (by have w1' : w9 < fB S + 1 := w1; omega)]; exact y6 w9 j w0 (by have w1' : w9 < fB S + 1 := w1; omega) j0 j1)), y7⟩, q2, q1⟩
      · skip
        refine RQ.seg 2 (pc' := 36) (L' := [some (.ref 80), some (.int (iI (lkm (lk tp (fA S))))), none, none, none, none, none, none]) (st' := [.int (iI 108), .int (iI (lkm (lk tp (fA S))))]) (g1 := (HW (usc sc 8010 (sk tp (fA S))) ar 81 oc rl ou tl, q)) rfl ?_
        refine RQ.if2 (a := (lkm (lk tp (fA S)))) (b := 108) rfl rfl rfl rfl (by omega) (by omega) (fun _ => ?_) (fun (q : ¬ lkm (lk tp (fA S)) ≠ 108) => absurd (show lkm (lk tp (fA S)) ≠ 108 from by omega) q)
        refine RQ.seg 5 (pc' := 57) (L' := [some (.ref 80), some (.int (iI (lkm (lk tp (fA S))))), some (.int (iI 0)), none, none, none, none, none]) (st' := [.ref 80]) (g1 := (HW (usc sc 8010 (sk tp (fA S))) ar 81 oc rl ou tl, q)) rfl ?_
        have hcall := CallR.up (d' := d + 5) (m_fails (K := K) (d := 0) (tx := 81) (oc := oc) (rl := rl) (ou := ou) (tl := tl) (q := q) (sc := usc sc 8010 (sk tp (fA S))) (ar := ar) (by show -1 ≤ sc 8011 ∧ sc 8011 ≤ 200; omega)) (by omega)
        rw [show (if (usc sc 8010 (sk tp (fA S))) 8011 = -1 then (usc sc 8010 (sk tp (fA S))) 8010 else (usc sc 8010 (sk tp (fA S))) 8011) = sk tp (fA S) from if_pos h0] at hcall
        refine RQ.call rfl rfl hcall ?_
        refine RQ.seg 1 (pc' := 61) (L' := [some (.ref 80), some (.int (iI (lkm (lk tp (fA S))))), some (.int (iI 0)), none, none, none, none, none]) (st' := []) (g1 := (HW (usc (usc sc 8010 (sk tp (fA S))) 8011 (sk tp (fA S))) ar 81 oc rl ou tl, q)) rfl ?_
        refine RQ.ret rfl rfl ?_
        have eT : cls tp S = (sk tp (fA S), sk tp (fA S), fW S, fB S, fL S, gW S, gB S, gL S) := by unfold cls; rw [if_neg (by omega), if_neg (by omega), if_neg (by omega)]
        rw [eT]
        exact ⟨rfl, _, _, rfl, (by repeat (first | exact Same.rf | refine Same.us rfl ?_)), (by repeat (first | exact Same.rf | refine Same.us rfl ?_)), rfl, fun z => absurd (show sk tp (fA S) = -1 from z) (by omega), by show 0 ≤ sk tp (fA S) ∧ sk tp (fA S) ≤ _; omega, by show -1 ≤ sk tp (fA S) ∧ sk tp (fA S) ≤ 160; omega⟩
  · skip
    refine RQ.seg 2 (pc' := 15) (L' := [some (.ref 80), some (.int (iI (lkm (lk tp (fA S))))), none, none, none, none, none, none]) (st' := [.int (iI (sc 8026))]) (g1 := (HW (usc sc 8010 (sk tp (fA S))) ar 81 oc rl ou tl, q)) rfl ?_
    refine RQ.to (L' := [some (.ref 80), some (.int (iI (lkm (lk tp (fA S))))), none, none, none, none, none, none]) (st' := [.int (iI (fW S))]) rfl (by rw [show sc 8026 = fW S from y3]) ?_
    refine RQ.seg 1 (pc' := 16) (L' := [some (.ref 80), some (.int (iI (lkm (lk tp (fA S))))), none, none, none, none, none, none]) (st' := [.int (iI 4), .int (iI (fW S))]) (g1 := (HW (usc sc 8010 (sk tp (fA S))) ar 81 oc rl ou tl, q)) rfl ?_
    refine RQ.if2 (a := (fW S)) (b := 4) rfl rfl rfl rfl (by omega) (by omega) (fun (h25 : fW S < 4) => ?_) (fun (h25 : ¬ fW S < 4) => ?_)
    · skip
      have hkp := tch_pos (tp := tp) (p := sk tp (fA S)) (by show lk tp (fA S) ≠ 0; omega)
      refine RQ.seg 10 (pc' := 69) (L' := [some (.ref 80), some (.int (iI (lkm (lk tp (fA S))))), some (.int (iI 1)), none, none, none, none, none]) (st' := [.int ((iI (sk tp (fA S))) + (iI 1)), .ref 80]) (g1 := (HW (usc sc 8010 (sk tp (fA S))) ar 81 oc rl ou tl, q)) rfl ?_
      refine RQ.to (L' := [some (.ref 80), some (.int (iI (lkm (lk tp (fA S))))), some (.int (iI 1)), none, none, none, none, none]) (st' := [.int (iI (sk tp (fA S) + 1)), .ref 80]) rfl (by simp only [iI_add, iI_sub, iI_mul, iI_neg]) ?_
      refine RQ.seg 3 (pc' := 75) (L' := [some (.ref 80), some (.int (iI (lkm (lk tp (fA S))))), some (.int (iI 1)), none, none, none, none, none]) (st' := [.int (iI 119), .int (iI (lkm (lk tp (fA S))))]) (g1 := (HW (usc sc 8010 (sk tp (fA S) + 1)) ar 81 oc rl ou tl, q)) rfl ?_
      refine RQ.if2 (a := (lkm (lk tp (fA S)))) (b := 119) rfl rfl rfl rfl (by omega) (by omega) (fun (q : lkm (lk tp (fA S)) ≠ 119) => absurd q (show ¬ lkm (lk tp (fA S)) ≠ 119 from by omega)) (fun _ => ?_)
      refine RQ.seg 3 (pc' := 83) (L' := [some (.ref 80), some (.int (iI (lkm (lk tp (fA S))))), some (.int (iI 1)), none, none, none, none, none]) (st' := [.int (iI (sc 8026)), .int (iI 4)]) (g1 := (HW (usc sc 8010 (sk tp (fA S) + 1)) ar 81 oc rl ou tl, q)) rfl ?_
      refine RQ.to (L' := [some (.ref 80), some (.int (iI (lkm (lk tp (fA S))))), some (.int (iI 1)), none, none, none, none, none]) (st' := [.int (iI (fW S)), .int (iI 4)]) rfl (by rw [show sc 8026 = fW S from y3]) ?_
      refine RQ.seg 5 (pc' := 107) (L' := [some (.ref 80), some (.int (iI (lkm (lk tp (fA S))))), some (.int (iI 1)), some (.int ((iI 4) * (iI (fW S)))), none, none, none, none]) (st' := [.int (iI 119), .int (iI (lkm (lk tp (fA S))))]) (g1 := (HW (usc sc 8010 (sk tp (fA S) + 1)) ar 81 oc rl ou tl, q)) rfl ?_
      refine RQ.if2 (a := (lkm (lk tp (fA S)))) (b := 119) rfl rfl rfl rfl (by omega) (by omega) (fun (q : lkm (lk tp (fA S)) ≠ 119) => absurd q (show ¬ lkm (lk tp (fA S)) ≠ 119 from by omega)) (fun _ => ?_)
      refine RQ.seg 6 (pc' := 139) (L' := [some (.ref 80), some (.int (iI (lkm (lk tp (fA S))))), some (.int (iI 1)), some (.int ((iI 4) * (iI (fW S)))), some (.ref 88), none, none, none]) (st' := [.int (iI 119), .int (iI (lkm (lk tp (fA S))))]) (g1 := (HW (usc sc 8010 (sk tp (fA S) + 1)) ar 81 oc rl ou tl, q)) rfl ?_
      refine RQ.if2 (a := (lkm (lk tp (fA S)))) (b := 119) rfl rfl rfl rfl (by omega) (by omega) (fun (q : lkm (lk tp (fA S)) ≠ 119) => absurd q (show ¬ lkm (lk tp (fA S)) ≠ 119 from by omega)) (fun _ => ?_)
      refine RQ.seg 5 (pc' := 168) (L' := [some (.ref 80), some (.int (iI (lkm (lk tp (fA S))))), some (.int (iI 1)), some (.int ((iI 4) * (iI (fW S)))), some (.ref 88), some (.retAddr 22), none, none]) (st' := [.int (iI 119), .int (iI (lkm (lk tp (fA S))))]) (g1 := (HW (usc sc 8010 (sk tp (fA S) + 1)) ar 81 oc rl ou tl, q)) rfl ?_
      refine RQ.if2 (a := (lkm (lk tp (fA S)))) (b := 119) rfl rfl rfl rfl (by omega) (by omega) (fun (q : lkm (lk tp (fA S)) ≠ 119) => absurd q (show ¬ lkm (lk tp (fA S)) ≠ 119 from by omega)) (fun _ => ?_)
      refine RQ.seg 3 (pc' := 176) (L' := [some (.ref 80), some (.int (iI (lkm (lk tp (fA S))))), some (.int (iI 1)), some (.int ((iI 4) * (iI (fW S)))), some (.ref 88), some (.retAddr 22), none, none]) (st' := [.int (iI (sc 8026)), .ref 80]) (g1 := (HW (usc sc 8010 (sk tp (fA S) + 1)) ar 81 oc rl ou tl, q)) rfl ?_
      refine RQ.to (L' := [some (.ref 80), some (.int (iI (lkm (lk tp (fA S))))), some (.int (iI 1)), some (.int ((iI 4) * (iI (fW S)))), some (.ref 88), some (.retAddr 22), none, none]) (st' := [.int (iI (fW S)), .ref 80]) rfl (by rw [show sc 8026 = fW S from y3]) ?_
      refine RQ.seg 2 (pc' := 178) (L' := [some (.ref 80), some (.int (iI (lkm (lk tp (fA S))))), some (.int (iI 1)), some (.int ((iI 4) * (iI (fW S)))), some (.ref 88), some (.retAddr 22), none, none]) (st' := [.int ((iI (fW S)) + (iI 1)), .ref 80]) (g1 := (HW (usc sc 8010 (sk tp (fA S) + 1)) ar 81 oc rl ou tl, q)) rfl ?_
      refine RQ.to (L' := [some (.ref 80), some (.int (iI (lkm (lk tp (fA S))))), some (.int (iI 1)), some (.int (iI (4 * (fW S)))), some (.ref 88), some (.retAddr 22), none, none]) (st' := [.int (iI (fW S + 1)), .ref 80]) (by simp only [iI_add, iI_sub, iI_mul, iI_neg]) (by simp only [iI_add, iI_sub, iI_mul, iI_neg]) ?_
      refine RQ.seg 3 (pc' := 184) (L' := [some (.ref 80), some (.int (iI (lkm (lk tp (fA S))))), some (.int (iI 1)), some (.int (iI (4 * (fW S)))), some (.ref 88), some (.retAddr 22), none, none]) (st' := [.int (iI 98), .int (iI (lkm (lk tp (fA S))))]) (g1 := (HW (usc (usc sc 8010 (sk tp (fA S) + 1)) 8026 (fW S + 1)) ar 81 oc rl ou tl, q)) rfl ?_
      refine RQ.if2 (a := (lkm (lk tp (fA S)))) (b := 98) rfl rfl rfl rfl (by omega) (by omega) (fun _ => ?_) (fun (q : ¬ lkm (lk tp (fA S)) ≠ 98) => absurd (show lkm (lk tp (fA S)) ≠ 98 from by omega) q)
      refine RQ.seg 2 (pc' := 200) (L' := [some (.ref 80), some (.int (iI (lkm (lk tp (fA S))))), some (.int (iI 1)), some (.int (iI (4 * (fW S)))), some (.ref 88), some (.retAddr 22), none, none]) (st' := [.int (iI 108), .int (iI (lkm (lk tp (fA S))))]) (g1 := (HW (usc (usc sc 8010 (sk tp (fA S) + 1)) 8026 (fW S + 1)) ar 81 oc rl ou tl, q)) rfl ?_
      refine RQ.if2 (a := (lkm (lk tp (fA S)))) (b := 108) rfl rfl rfl rfl (by omega) (by omega) (fun _ => ?_) (fun (q : ¬ lkm (lk tp (fA S)) ≠ 108) => absurd (show lkm (lk tp (fA S)) ≠ 108 from by omega) q)
      refine RQ.seg 4 (pc' := 215) (L' := [some (.ref 80), some (.int (iI (lkm (lk tp (fA S))))), some (.int (iI 1)), some (.int (iI (4 * (fW S)))), some (.ref 88), some (.retAddr 22), some (.int (iI 0)), none]) (st' := [.retAddr 22, .int (iI 0)]) (g1 := (HW (usc (usc sc 8010 (sk tp (fA S) + 1)) 8026 (fW S + 1)) ar 81 oc rl ou tl, q)) rfl ?_
      refine RQ.call rfl rfl (rv := some (.int (iI 4))) (Or.inl ⟨rfl, Or.inl ⟨rfl, by omega, 2, by decide, rfl, rfl⟩⟩) ?_
      refine RQ.seg 7 (pc' := 230) (L' := [some (.ref 80), some (.int (iI (lkm (lk tp (fA S))))), some (.int (iI 1)), some (.int (iI (4 * (fW S)))), some (.ref 88), some (.retAddr 22), some (.int (iI 0)), none]) (st' := [.int (iI 0), .int (iI (lkm (lk tp (fA S)))), .int ((iI (4 * (fW S))) + (iI 0)), .ref 88]) (g1 := (HW (usc (usc sc 8010 (sk tp (fA S) + 1)) 8026 (fW S + 1)) ar 81 oc rl ou tl, q)) rfl ?_
      refine RQ.to (L' := [some (.ref 80), some (.int (iI (lkm (lk tp (fA S))))), some (.int (iI 1)), some (.int (iI (4 * (fW S)))), some (.ref 88), some (.retAddr 22), some (.int (iI 0)), none]) (st' := [.int (iI 0), .int (iI (lkm (lk tp (fA S)))), .int (iI (4 * (fW S) + 0)), .ref 88]) rfl (by simp only [iI_add, iI_sub, iI_mul, iI_neg]) ?_
      refine RQ.call rfl rfl (CallR.up (d := 1) (m_usual_w (d := 0) (c := lkm (lk tp (fA S))) (j := 0) (by omega) (by omega)) (by omega)) ?_
      refine RQ.iast (z := (4 * (fW S) + 0)) (v := (kc5 0)) (g1 := (HW (usc (usc sc 8010 (sk tp (fA S) + 1)) 8026 (fW S + 1)) (usc ar 88 (usz (ar 88) (4 * (fW S) + 0) (kc5 0))) 81 oc rl ou tl, q)) rfl rfl rfl rfl (by omega) (by decide) (HWa_88 rfl) ?_
      refine RQ.seg 4 (pc' := 215) (L' := [some (.ref 80), some (.int (iI (lkm (lk tp (fA S))))), some (.int (iI 1)), some (.int (iI (4 * (fW S)))), some (.ref 88), some (.retAddr 22), some (.int (iI 1)), none]) (st' := [.retAddr 22, .int (iI 1)]) (g1 := (HW (usc (usc sc 8010 (sk tp (fA S) + 1)) 8026 (fW S + 1)) (usc ar 88 (usz (ar 88) (4 * (fW S) + 0) (kc5 0))) 81 oc rl ou tl, q)) rfl ?_
      refine RQ.call rfl rfl (rv := some (.int (iI 4))) (Or.inl ⟨rfl, Or.inl ⟨rfl, by omega, 2, by decide, rfl, rfl⟩⟩) ?_
      refine RQ.seg 7 (pc' := 230) (L' := [some (.ref 80), some (.int (iI (lkm (lk tp (fA S))))), some (.int (iI 1)), some (.int (iI (4 * (fW S)))), some (.ref 88), some (.retAddr 22), some (.int (iI 1)), none]) (st' := [.int (iI 1), .int (iI (lkm (lk tp (fA S)))), .int ((iI (4 * (fW S))) + (iI 1)), .ref 88]) (g1 := (HW (usc (usc sc 8010 (sk tp (fA S) + 1)) 8026 (fW S + 1)) (usc ar 88 (usz (ar 88) (4 * (fW S) + 0) (kc5 0))) 81 oc rl ou tl, q)) rfl ?_
      refine RQ.to (L' := [some (.ref 80), some (.int (iI (lkm (lk tp (fA S))))), some (.int (iI 1)), some (.int (iI (4 * (fW S)))), some (.ref 88), some (.retAddr 22), some (.int (iI 1)), none]) (st' := [.int (iI 1), .int (iI (lkm (lk tp (fA S)))), .int (iI (4 * (fW S) + 1)), .ref 88]) rfl (by simp only [iI_add, iI_sub, iI_mul, iI_neg]) ?_
      refine RQ.call rfl rfl (CallR.up (d := 1) (m_usual_w (d := 0) (c := lkm (lk tp (fA S))) (j := 1) (by omega) (by omega)) (by omega)) ?_
      refine RQ.iast (z := (4 * (fW S) + 1)) (v := (kc5 1)) (g1 := (HW (usc (usc sc 8010 (sk tp (fA S) + 1)) 8026 (fW S + 1)) (usc ar 88 (usz (usz (ar 88) (4 * (fW S) + 0) (kc5 0)) (4 * (fW S) + 1) (kc5 1))) 81 oc rl ou tl, q)) rfl rfl rfl rfl (by omega) (by decide) (HWa_88 (by funext j; unfold usc; cases hb : Nat.beq j 88 <;> first | rfl | (rw [Nat.eq_of_beq_eq_true hb]; rfl))) ?_
      refine RQ.seg 4 (pc' := 215) (L' := [some (.ref 80), some (.int (iI (lkm (lk tp (fA S))))), some (.int (iI 1)), some (.int (iI (4 * (fW S)))), some (.ref 88), some (.retAddr 22), some (.int (iI 2)), none]) (st' := [.retAddr 22, .int (iI 2)]) (g1 := (HW (usc (usc sc 8010 (sk tp (fA S) + 1)) 8026 (fW S + 1)) (usc ar 88 (usz (usz (ar 88) (4 * (fW S) + 0) (kc5 0)) (4 * (fW S) + 1) (kc5 1))) 81 oc rl ou tl, q)) rfl ?_
      refine RQ.call rfl rfl (rv := some (.int (iI 4))) (Or.inl ⟨rfl, Or.inl ⟨rfl, by omega, 2, by decide, rfl, rfl⟩⟩) ?_
      refine RQ.seg 7 (pc' := 230) (L' := [some (.ref 80), some (.int (iI (lkm (lk tp (fA S))))), some (.int (iI 1)), some (.int (iI (4 * (fW S)))), some (.ref 88), some (.retAddr 22), some (.int (iI 2)), none]) (st' := [.int (iI 2), .int (iI (lkm (lk tp (fA S)))), .int ((iI (4 * (fW S))) + (iI 2)), .ref 88]) (g1 := (HW (usc (usc sc 8010 (sk tp (fA S) + 1)) 8026 (fW S + 1)) (usc ar 88 (usz (usz (ar 88) (4 * (fW S) + 0) (kc5 0)) (4 * (fW S) + 1) (kc5 1))) 81 oc rl ou tl, q)) rfl ?_
      refine RQ.to (L' := [some (.ref 80), some (.int (iI (lkm (lk tp (fA S))))), some (.int (iI 1)), some (.int (iI (4 * (fW S)))), some (.ref 88), some (.retAddr 22), some (.int (iI 2)), none]) (st' := [.int (iI 2), .int (iI (lkm (lk tp (fA S)))), .int (iI (4 * (fW S) + 2)), .ref 88]) rfl (by simp only [iI_add, iI_sub, iI_mul, iI_neg]) ?_
      refine RQ.call rfl rfl (CallR.up (d := 1) (m_usual_w (d := 0) (c := lkm (lk tp (fA S))) (j := 2) (by omega) (by omega)) (by omega)) ?_
      refine RQ.iast (z := (4 * (fW S) + 2)) (v := (kc5 2)) (g1 := (HW (usc (usc sc 8010 (sk tp (fA S) + 1)) 8026 (fW S + 1)) (usc ar 88 (usz (usz (usz (ar 88) (4 * (fW S) + 0) (kc5 0)) (4 * (fW S) + 1) (kc5 1)) (4 * (fW S) + 2) (kc5 2))) 81 oc rl ou tl, q)) rfl rfl rfl rfl (by omega) (by decide) (HWa_88 (by funext j; unfold usc; cases hb : Nat.beq j 88 <;> first | rfl | (rw [Nat.eq_of_beq_eq_true hb]; rfl))) ?_
      refine RQ.seg 4 (pc' := 215) (L' := [some (.ref 80), some (.int (iI (lkm (lk tp (fA S))))), some (.int (iI 1)), some (.int (iI (4 * (fW S)))), some (.ref 88), some (.retAddr 22), some (.int (iI 3)), none]) (st' := [.retAddr 22, .int (iI 3)]) (g1 := (HW (usc (usc sc 8010 (sk tp (fA S) + 1)) 8026 (fW S + 1)) (usc ar 88 (usz (usz (usz (ar 88) (4 * (fW S) + 0) (kc5 0)) (4 * (fW S) + 1) (kc5 1)) (4 * (fW S) + 2) (kc5 2))) 81 oc rl ou tl, q)) rfl ?_
      refine RQ.call rfl rfl (rv := some (.int (iI 4))) (Or.inl ⟨rfl, Or.inl ⟨rfl, by omega, 2, by decide, rfl, rfl⟩⟩) ?_
      refine RQ.seg 7 (pc' := 230) (L' := [some (.ref 80), some (.int (iI (lkm (lk tp (fA S))))), some (.int (iI 1)), some (.int (iI (4 * (fW S)))), some (.ref 88), some (.retAddr 22), some (.int (iI 3)), none]) (st' := [.int (iI 3), .int (iI (lkm (lk tp (fA S)))), .int ((iI (4 * (fW S))) + (iI 3)), .ref 88]) (g1 := (HW (usc (usc sc 8010 (sk tp (fA S) + 1)) 8026 (fW S + 1)) (usc ar 88 (usz (usz (usz (ar 88) (4 * (fW S) + 0) (kc5 0)) (4 * (fW S) + 1) (kc5 1)) (4 * (fW S) + 2) (kc5 2))) 81 oc rl ou tl, q)) rfl ?_
      refine RQ.to (L' := [some (.ref 80), some (.int (iI (lkm (lk tp (fA S))))), some (.int (iI 1)), some (.int (iI (4 * (fW S)))), some (.ref 88), some (.retAddr 22), some (.int (iI 3)), none]) (st' := [.int (iI 3), .int (iI (lkm (lk tp (fA S)))), .int (iI (4 * (fW S) + 3)), .ref 88]) rfl (by simp only [iI_add, iI_sub, iI_mul, iI_neg]) ?_
      refine RQ.call rfl rfl (CallR.up (d := 1) (m_usual_w (d := 0) (c := lkm (lk tp (fA S))) (j := 3) (by omega) (by omega)) (by omega)) ?_
      refine RQ.iast (z := (4 * (fW S) + 3)) (v := (kc5 3)) (g1 := (HW (usc (usc sc 8010 (sk tp (fA S) + 1)) 8026 (fW S + 1)) (usc ar 88 (usz (usz (usz (usz (ar 88) (4 * (fW S) + 0) (kc5 0)) (4 * (fW S) + 1) (kc5 1)) (4 * (fW S) + 2) (kc5 2)) (4 * (fW S) + 3) (kc5 3))) 81 oc rl ou tl, q)) rfl rfl rfl rfl (by omega) (by decide) (HWa_88 (by funext j; unfold usc; cases hb : Nat.beq j 88 <;> first | rfl | (rw [Nat.eq_of_beq_eq_true hb]; rfl))) ?_
      refine RQ.seg 4 (pc' := 215) (L' := [some (.ref 80), some (.int (iI (lkm (lk tp (fA S))))), some (.int (iI 1)), some (.int (iI (4 * (fW S)))), some (.ref 88), some (.retAddr 22), some (.int (iI 4)), none]) (st' := [.retAddr 22, .int (iI 4)]) (g1 := (HW (usc (usc sc 8010 (sk tp (fA S) + 1)) 8026 (fW S + 1)) (usc ar 88 (usz (usz (usz (usz (ar 88) (4 * (fW S) + 0) (kc5 0)) (4 * (fW S) + 1) (kc5 1)) (4 * (fW S) + 2) (kc5 2)) (4 * (fW S) + 3) (kc5 3))) 81 oc rl ou tl, q)) rfl ?_
      refine RQ.call rfl rfl (rv := some (.int (iI 4))) (Or.inl ⟨rfl, Or.inl ⟨rfl, by omega, 2, by decide, rfl, rfl⟩⟩) ?_
      refine RQ.seg 5 (pc' := 246) (L' := [some (.ref 80), some (.int (iI (lkm (lk tp (fA S))))), some (.int (iI 1)), some (.int (iI (4 * (fW S)))), some (.ref 88), some (.retAddr 22), some (.int (iI 0)), none]) (st' := [.ref 80, .retAddr 22]) (g1 := (HW (usc (usc sc 8010 (sk tp (fA S) + 1)) 8026 (fW S + 1)) (usc ar 88 (usz (usz (usz (usz (ar 88) (4 * (fW S) + 0) (kc5 0)) (4 * (fW S) + 1) (kc5 1)) (4 * (fW S) + 2) (kc5 2)) (4 * (fW S) + 3) (kc5 3))) 81 oc rl ou tl, q)) rfl ?_
      have hsk2 := sk_r (tp := tp) (p := sk tp (fA S) + 1) (by omega)
      have hlr2 := tch_r ht (sk tp (sk tp (fA S) + 1))
      have hlk2 : 0 ≤ lk tp (sk tp (fA S) + 1) ∧ lk tp (sk tp (fA S) + 1) ≤ 255 := hlr2
      have hlm2 := lkm_r hlk2
      refine RQ.call rfl rfl (CallR.up (d := 1) (m_look81 (d := 0) (sc := usc (usc sc 8010 (sk tp (fA S) + 1)) 8026 (fW S + 1)) (ar := usc ar 88 (usz (usz (usz (usz (ar 88) (4 * (fW S) + 0) (kc5 0)) (4 * (fW S) + 1) (kc5 1)) (4 * (fW S) + 2) (kc5 2)) (4 * (fW S) + 3) (kc5 3))) (a := sk tp (fA S) + 1) ht hv rfl (by omega)) (by omega)) ?_
      refine RQ.hp (g1 := (HW (usc (usc sc 8010 (sk tp (sk tp (fA S) + 1))) 8026 (fW S + 1)) (usc ar 88 (usz (usz (usz (usz (ar 88) (4 * (fW S) + 0) (kc5 0)) (4 * (fW S) + 1) (kc5 1)) (4 * (fW S) + 2) (kc5 2)) (4 * (fW S) + 3) (kc5 3))) 81 oc rl ou tl, q)) (HW_e (by rw [usc_sw _ 8026 8010 _ _ rfl, usc_uu _ 8010 _ _]; try rfl) rfl) ?_
      refine RQ.call rfl rfl (CallR.up (d := 5) (m_place_pw (d := 0) (c := lkm (lk tp (sk tp (fA S) + 1))) (by omega)) (by omega)) ?_
      rw [pw_m]
      refine RQ.seg 1 (pc' := 254) (L' := [some (.ref 80), some (.int (iI (lkm (lk tp (fA S))))), some (.int (iI 1)), some (.int (iI (4 * (fW S)))), some (.ref 88), some (.retAddr 22), some (.int (iI 0)), some (.int (iI (pw (lk tp (sk tp (fA S) + 1)))))]) (st' := []) (g1 := (HW (usc (usc sc 8010 (sk tp (sk tp (fA S) + 1))) 8026 (fW S + 1)) (usc ar 88 (usz (usz (usz (usz (ar 88) (4 * (fW S) + 0) (kc5 0)) (4 * (fW S) + 1) (kc5 1)) (4 * (fW S) + 2) (kc5 2)) (4 * (fW S) + 3) (kc5 3))) 81 oc rl ou tl, q)) rfl ?_
      refine RQ.hp (g1 := (HW (usc (usc (usc sc 8010 (sk tp (sk tp (fA S) + 1))) 8011 (-1)) 8026 (fW S + 1)) (usc ar 88 (usz (usz (usz (usz (ar 88) (4 * (fW S) + 0) (kc5 0)) (4 * (fW S) + 1) (kc5 1)) (4 * (fW S) + 2) (kc5 2)) (4 * (fW S) + 3) (kc5 3))) 81 oc rl ou tl, q)) (HW_e (show usc (usc sc 8010 (sk tp (sk tp (fA S) + 1))) 8026 (fW S + 1) = usc (usc (usc sc 8010 (sk tp (sk tp (fA S) + 1))) 8011 (-1)) 8026 (fW S + 1) by funext k9; by_cases e9 : k9 = 8011; (subst e9; exact h0); (unfold usc; rw [beqf e9]; rfl)) rfl) ?_
      refine RQ.hp (g1 := (HW (usc (usc (usc sc 8026 (fW S + 1)) 8010 (sk tp (sk tp (fA S) + 1))) 8011 (-1)) (usc ar 88 (usz (usz (usz (usz (ar 88) (4 * (fW S) + 0) (kc5 0)) (4 * (fW S) + 1) (kc5 1)) (4 * (fW S) + 2) (kc5 2)) (4 * (fW S) + 3) (kc5 3))) 81 oc rl ou tl, q)) (HW_e (show usc (usc (usc sc 8010 (sk tp (sk tp (fA S) + 1))) 8011 (-1)) 8026 (fW S + 1) = usc (usc (usc sc 8026 (fW S + 1)) 8010 (sk tp (sk tp (fA S) + 1))) 8011 (-1) by repeat (first | rfl | rw [usc_sw _ 8011 8026 _ _ rfl, usc_sw _ 8010 8026 _ _ rfl])) rfl) ?_
      refine m_itw_l (sc := usc sc 8026 (fW S + 1)) (ar := ar) (c := lkm (lk tp (fA S))) (ro := 4 * fW S) (f0 := ar 88) ht hv (by omega) (by omega) 5 0 (sk tp (fA S) + 1) (usz (usz (usz (usz (ar 88) (4 * (fW S) + 0) (kc5 0)) (4 * (fW S) + 1) (kc5 1)) (4 * (fW S) + 2) (kc5 2)) (4 * (fW S) + 3) (kc5 3)) kc5 (by decide) (by decide) (by omega) (fun j j0 j1 => ?_) (fun i hi9 => ?_) (fun a' w' f' q1 q2 q3 q4 q5 => ?_)
      · rcases (show j = 0 ∨ j = 1 ∨ j = 2 ∨ j = 3 by omega) with rfl | rfl | rfl | rfl <;> (repeat (first | rw [Int.zero_add] | rw [usz_s] | rw [usz_n (by omega)]))
      · (repeat (first | rw [usz_n (by omega)]))
      have eT : cls tp S = ((iW tp (sk tp (fA S) + 1)).1, (iW tp (sk tp (fA S) + 1)).2.1, fW S + 1, fB S, fL S, usf (gW S) (fW S) (iW tp (sk tp (fA S) + 1)).2.2, gB S, gL S) := by unfold cls; rw [if_pos (by omega)]
      rw [eT]
      exact ⟨rfl, _, _, rfl, (by repeat (first | exact Same.rf | refine Same.us rfl ?_)), (by repeat (first | exact Same.rf | refine Same.us rfl ?_)), q3, fun z9 => ⟨(q4 z9).1, y2, rfl, y4, (fun w9 j w0 w1 j0 j1 => by by_cases e9 : w9 = fW S; (subst e9; show f' (4 * fW S + j) = usf (gW S) (fW S) _ (fW S) j; rw [usf_s]; exact (q4 z9).2 j j0 j1); (show f' (4 * w9 + j) = usf (gW S) (fW S) _ w9 j; rw [usf_n e9, q5 _ (by have w1' : w9 < fW S + 1 := w1; omega)]; exact y5 w9 j w0 (by have w1' : w9 < fW S + 1 := w1; omega) j0 j1)), y6, y7⟩, q2, q1⟩
    · skip
      refine RQ.seg 2 (pc' := 22) (L' := [some (.ref 80), some (.int (iI (lkm (lk tp (fA S))))), none, none, none, none, none, none]) (st' := [.int (iI 98), .int (iI (lkm (lk tp (fA S))))]) (g1 := (HW (usc sc 8010 (sk tp (fA S))) ar 81 oc rl ou tl, q)) rfl ?_
      refine RQ.if2 (a := (lkm (lk tp (fA S)))) (b := 98) rfl rfl rfl rfl (by omega) (by omega) (fun _ => ?_) (fun (q : ¬ lkm (lk tp (fA S)) ≠ 98) => absurd (show lkm (lk tp (fA S)) ≠ 98 from by omega) q)
      refine RQ.seg 2 (pc' := 36) (L' := [some (.ref 80), some (.int (iI (lkm (lk tp (fA S))))), none, none, none, none, none, none]) (st' := [.int (iI 108), .int (iI (lkm (lk tp (fA S))))]) (g1 := (HW (usc sc 8010 (sk tp (fA S))) ar 81 oc rl ou tl, q)) rfl ?_
      refine RQ.if2 (a := (lkm (lk tp (fA S)))) (b := 108) rfl rfl rfl rfl (by omega) (by omega) (fun _ => ?_) (fun (q : ¬ lkm (lk tp (fA S)) ≠ 108) => absurd (show lkm (lk tp (fA S)) ≠ 108 from by omega) q)
      refine RQ.seg 5 (pc' := 57) (L' := [some (.ref 80), some (.int (iI (lkm (lk tp (fA S))))), some (.int (iI 0)), none, none, none, none, none]) (st' := [.ref 80]) (g1 := (HW (usc sc 8010 (sk tp (fA S))) ar 81 oc rl ou tl, q)) rfl ?_
      have hcall := CallR.up (d' := d + 5) (m_fails (K := K) (d := 0) (tx := 81) (oc := oc) (rl := rl) (ou := ou) (tl := tl) (q := q) (sc := usc sc 8010 (sk tp (fA S))) (ar := ar) (by show -1 ≤ sc 8011 ∧ sc 8011 ≤ 200; omega)) (by omega)
      rw [show (if (usc sc 8010 (sk tp (fA S))) 8011 = -1 then (usc sc 8010 (sk tp (fA S))) 8010 else (usc sc 8010 (sk tp (fA S))) 8011) = sk tp (fA S) from if_pos h0] at hcall
      refine RQ.call rfl rfl hcall ?_
      refine RQ.seg 1 (pc' := 61) (L' := [some (.ref 80), some (.int (iI (lkm (lk tp (fA S))))), some (.int (iI 0)), none, none, none, none, none]) (st' := []) (g1 := (HW (usc (usc sc 8010 (sk tp (fA S))) 8011 (sk tp (fA S))) ar 81 oc rl ou tl, q)) rfl ?_
      refine RQ.ret rfl rfl ?_
      have eT : cls tp S = (sk tp (fA S), sk tp (fA S), fW S, fB S, fL S, gW S, gB S, gL S) := by unfold cls; rw [if_neg (by omega), if_neg (by omega), if_neg (by omega)]
      rw [eT]
      exact ⟨rfl, _, _, rfl, (by repeat (first | exact Same.rf | refine Same.us rfl ?_)), (by repeat (first | exact Same.rf | refine Same.us rfl ?_)), rfl, fun z => absurd (show sk tp (fA S) = -1 from z) (by omega), by show 0 ≤ sk tp (fA S) ∧ sk tp (fA S) ≤ _; omega, by show -1 ≤ sk tp (fA S) ∧ sk tp (fA S) ≤ 160; omega⟩
