/-! the reference reads a rule: a term, a sum, by wip/tools -/
theorem ms81_1 {K : PK} {tp : List Int} {bg : Int} {ar : Nat → Int → Int} (ht : TpOK tp) {m : Nat} (p : MC K tp bg 160 81 ar m 0 163 5 [] []) (l : ML6_81 K tp bg ar m) : MC K tp bg 160 81 ar (m + 1) 1 164 6 [] [] := by
  intro D u dp a sc oc rl ou tl q hdu hdp hD hM hF
  have ht1 := ht.1
  obtain ⟨hv, hA, hW, hWr, hDp, hG⟩ := id hM
  obtain ⟨g1, g2⟩ := hG rfl
  replace g1 : sc 8010 = a := g1
  have hFu : 16 * ((tp.length : Int) - a) + 2 ≤ ((m + 1 : Nat) : Int) := hF
  refine CQ.of (own := 11) (n := 5) (ini := false) (rt := (some .int)) (cd := cd164) (by decide +kernel) rfl (by decide +kernel) rfl (Nat.le_of_ble_eq_true rfl) ?_
  rw [show rd tp (m + 1) 1 dp a = rsq (rd tp m 0 dp a) (rd tp m 6 dp) from rfl]
  refine RQ.seg 1 (pc' := 1) (L' := [some (.ref 80), none, none, none, none]) (st' := [.ref 80]) (g1 := (HW sc ar 81 oc rl ou tl, q)) rfl ?_
  refine RQ.callQ rfl rfl (CQ.up (p (D - 1) u dp a sc oc rl ou tl q hdu hdp (by omega) hM (by show 16 * ((tp.length : Int) - a) + 1 ≤ (m : Int); omega)) (by omega)) (fun rv9 g9 hc9 => ?_)
  obtain ⟨z, sc1, rfl, hz, rfl, hs1, hM1, hev⟩ := hc9
  have hz1 := hz.2
  obtain ⟨hv_1, hA_1, hW_1, hWr_1, hD_1, hG_1⟩ := id hM1
  refine RQ.seg 1 (pc' := 5) (L' := [some (.ref 80), some (.int (iI z)), none, none, none]) (st' := []) (g1 := (HW sc1 ar 81 oc rl ou tl, q)) rfl ?_
  rcases Decidable.em ((rd tp m 0 dp a).1 = -1) with he1 | hE1
  · obtain ⟨k1, k2⟩ := hG_1 he1
    have hg : a + 1 ≤ (rd tp m 0 dp a).2.1 ∧ _ := ((rd_ok (tp := tp) m).at 0 dp (a := a) (by omega)).2 he1
    refine RQ.im (l D u dp (rd tp m 0 dp a).2.1 z _ _ _ sc1 oc rl ou tl q hdu hdp hD ⟨hv_1, hA_1, hW_1.trans he1, by show (-1 : Int) ≤ -1 ∧ (-1 : Int) ≤ 160; omega, hD_1, fun _ => ⟨k1, k2⟩⟩ (by show 16 * ((tp.length : Int) - (rd tp m 0 dp a).2.1) + 1 ≤ (m : Int); omega) hz1) (fun vv gg hq => ?_)
    obtain ⟨z9, sc9, e9, hz9, e8, hs9, hM9, hev9⟩ := hq
    rw [rsq_p he1]
    refine ⟨z9, sc9, e9, hz9, e8, hs1.tr hs9, hM9, fun zz st => ?_⟩
    show ev _ ((rd tp m 0 dp a).2.2 ++ (rd tp m 6 dp (rd tp m 0 dp a).2.1).2.2) st = z9 :: st
    rw [ev_app, show ev (fun k => ar 84 (kc3 k)) (rd tp m 0 dp a).2.2 st = z :: st from hev he1 st]
    exact hev9 zz st
  · rw [rsq_b hE1]
    have hwn : ¬ sc1 8011 = -1 := by omega
    refine RQ.seg 3 (pc' := 10) (L' := [some (.ref 80), some (.int (iI z)), none, none, none]) (st' := [.int (iI (-1)), .int (iI (sc1 8011))]) (g1 := (HW sc1 ar 81 oc rl ou tl, q)) rfl ?_
    refine RQ.if2 (a := (sc1 8011)) (b := (-1)) rfl rfl rfl rfl (by omega) (by omega) (fun _ => ?_) (fun (q : ¬ sc1 8011 ≠ (-1)) => absurd (show sc1 8011 ≠ (-1) from by omega) q)
    refine RQ.seg 1 (pc' := 95) (L' := [some (.ref 80), some (.int (iI z)), none, none, none]) (st' := [.int (iI z)]) (g1 := (HW sc1 ar 81 oc rl ou tl, q)) rfl ?_
    refine RQ.ret rfl rfl ?_
    exact ⟨_, sc1, rfl, ⟨fun z9 => absurd z9 (by decide), hz1⟩, rfl, hs1, hM1, fun z9 => absurd z9 hE1⟩
theorem ms81_2 {K : PK} {tp : List Int} {bg : Int} {ar : Nat → Int → Int} (ht : TpOK tp) {m : Nat} (p : MC K tp bg 160 81 ar m 1 164 6 [] []) (l : ML7_81 K tp bg ar m) : MC K tp bg 160 81 ar (m + 1) 2 165 7 [] [] := by
  intro D u dp a sc oc rl ou tl q hdu hdp hD hM hF
  have ht1 := ht.1
  obtain ⟨hv, hA, hW, hWr, hDp, hG⟩ := id hM
  obtain ⟨g1, g2⟩ := hG rfl
  replace g1 : sc 8010 = a := g1
  have hFu : 16 * ((tp.length : Int) - a) + 3 ≤ ((m + 1 : Nat) : Int) := hF
  refine CQ.of (own := 11) (n := 5) (ini := false) (rt := (some .int)) (cd := cd165) (by decide +kernel) rfl (by decide +kernel) rfl (Nat.le_of_ble_eq_true rfl) ?_
  rw [show rd tp (m + 1) 2 dp a = rsq (rd tp m 1 dp a) (rd tp m 7 dp) from rfl]
  refine RQ.seg 1 (pc' := 1) (L' := [some (.ref 80), none, none, none, none]) (st' := [.ref 80]) (g1 := (HW sc ar 81 oc rl ou tl, q)) rfl ?_
  refine RQ.callQ rfl rfl (CQ.up (p (D - 1) u dp a sc oc rl ou tl q hdu hdp (by omega) hM (by show 16 * ((tp.length : Int) - a) + 2 ≤ (m : Int); omega)) (by omega)) (fun rv9 g9 hc9 => ?_)
  obtain ⟨z, sc1, rfl, hz, rfl, hs1, hM1, hev⟩ := hc9
  have hz1 := hz.2
  obtain ⟨hv_1, hA_1, hW_1, hWr_1, hD_1, hG_1⟩ := id hM1
  refine RQ.seg 1 (pc' := 5) (L' := [some (.ref 80), some (.int (iI z)), none, none, none]) (st' := []) (g1 := (HW sc1 ar 81 oc rl ou tl, q)) rfl ?_
  rcases Decidable.em ((rd tp m 1 dp a).1 = -1) with he1 | hE1
  · obtain ⟨k1, k2⟩ := hG_1 he1
    have hg : a + 1 ≤ (rd tp m 1 dp a).2.1 ∧ _ := ((rd_ok (tp := tp) m).at 1 dp (a := a) (by omega)).2 he1
    refine RQ.im (l D u dp (rd tp m 1 dp a).2.1 z _ _ _ sc1 oc rl ou tl q hdu hdp hD ⟨hv_1, hA_1, hW_1.trans he1, by show (-1 : Int) ≤ -1 ∧ (-1 : Int) ≤ 160; omega, hD_1, fun _ => ⟨k1, k2⟩⟩ (by show 16 * ((tp.length : Int) - (rd tp m 1 dp a).2.1) + 1 ≤ (m : Int); omega) hz1) (fun vv gg hq => ?_)
    obtain ⟨z9, sc9, e9, hz9, e8, hs9, hM9, hev9⟩ := hq
    rw [rsq_p he1]
    refine ⟨z9, sc9, e9, hz9, e8, hs1.tr hs9, hM9, fun zz st => ?_⟩
    show ev _ ((rd tp m 1 dp a).2.2 ++ (rd tp m 7 dp (rd tp m 1 dp a).2.1).2.2) st = z9 :: st
    rw [ev_app, show ev (fun k => ar 84 (kc3 k)) (rd tp m 1 dp a).2.2 st = z :: st from hev he1 st]
    exact hev9 zz st
  · rw [rsq_b hE1]
    have hwn : ¬ sc1 8011 = -1 := by omega
    refine RQ.seg 3 (pc' := 10) (L' := [some (.ref 80), some (.int (iI z)), none, none, none]) (st' := [.int (iI (-1)), .int (iI (sc1 8011))]) (g1 := (HW sc1 ar 81 oc rl ou tl, q)) rfl ?_
    refine RQ.if2 (a := (sc1 8011)) (b := (-1)) rfl rfl rfl rfl (by omega) (by omega) (fun _ => ?_) (fun (q : ¬ sc1 8011 ≠ (-1)) => absurd (show sc1 8011 ≠ (-1) from by omega) q)
    refine RQ.seg 1 (pc' := 85) (L' := [some (.ref 80), some (.int (iI z)), none, none, none]) (st' := [.int (iI z)]) (g1 := (HW sc1 ar 81 oc rl ou tl, q)) rfl ?_
    refine RQ.ret rfl rfl ?_
    exact ⟨_, sc1, rfl, ⟨fun z9 => absurd z9 (by decide), hz1⟩, rfl, hs1, hM1, fun z9 => absurd z9 hE1⟩
theorem ms82_1 {K : PK} {tp : List Int} {bg : Int} {ar : Nat → Int → Int} (ht : TpOK tp) {m : Nat} (p : MC K tp bg 640 82 ar m 0 163 5 [] []) (l : ML6_82 K tp bg ar m) : MC K tp bg 640 82 ar (m + 1) 1 164 6 [] [] := by
  intro D u dp a sc oc rl ou tl q hdu hdp hD hM hF
  have ht1 := ht.1
  obtain ⟨hv, hA, hW, hWr, hDp, hG⟩ := id hM
  obtain ⟨g1, g2⟩ := hG rfl
  replace g1 : sc 8010 = a := g1
  have hFu : 16 * ((tp.length : Int) - a) + 2 ≤ ((m + 1 : Nat) : Int) := hF
  refine CQ.of (own := 11) (n := 5) (ini := false) (rt := (some .int)) (cd := cd164) (by decide +kernel) rfl (by decide +kernel) rfl (Nat.le_of_ble_eq_true rfl) ?_
  rw [show rd tp (m + 1) 1 dp a = rsq (rd tp m 0 dp a) (rd tp m 6 dp) from rfl]
  refine RQ.seg 1 (pc' := 1) (L' := [some (.ref 80), none, none, none, none]) (st' := [.ref 80]) (g1 := (HW sc ar 82 oc rl ou tl, q)) rfl ?_
  refine RQ.callQ rfl rfl (CQ.up (p (D - 1) u dp a sc oc rl ou tl q hdu hdp (by omega) hM (by show 16 * ((tp.length : Int) - a) + 1 ≤ (m : Int); omega)) (by omega)) (fun rv9 g9 hc9 => ?_)
  obtain ⟨z, sc1, rfl, hz, rfl, hs1, hM1, hev⟩ := hc9
  have hz1 := hz.2
  obtain ⟨hv_1, hA_1, hW_1, hWr_1, hD_1, hG_1⟩ := id hM1
  refine RQ.seg 1 (pc' := 5) (L' := [some (.ref 80), some (.int (iI z)), none, none, none]) (st' := []) (g1 := (HW sc1 ar 82 oc rl ou tl, q)) rfl ?_
  rcases Decidable.em ((rd tp m 0 dp a).1 = -1) with he1 | hE1
  · obtain ⟨k1, k2⟩ := hG_1 he1
    have hg : a + 1 ≤ (rd tp m 0 dp a).2.1 ∧ _ := ((rd_ok (tp := tp) m).at 0 dp (a := a) (by omega)).2 he1
    refine RQ.im (l D u dp (rd tp m 0 dp a).2.1 z _ _ _ sc1 oc rl ou tl q hdu hdp hD ⟨hv_1, hA_1, hW_1.trans he1, by show (-1 : Int) ≤ -1 ∧ (-1 : Int) ≤ 160; omega, hD_1, fun _ => ⟨k1, k2⟩⟩ (by show 16 * ((tp.length : Int) - (rd tp m 0 dp a).2.1) + 1 ≤ (m : Int); omega) hz1) (fun vv gg hq => ?_)
    obtain ⟨z9, sc9, e9, hz9, e8, hs9, hM9, hev9⟩ := hq
    rw [rsq_p he1]
    refine ⟨z9, sc9, e9, hz9, e8, hs1.tr hs9, hM9, fun zz st => ?_⟩
    show ev _ ((rd tp m 0 dp a).2.2 ++ (rd tp m 6 dp (rd tp m 0 dp a).2.1).2.2) st = z9 :: st
    rw [ev_app, show ev (fun k => ar 84 (kc3 k)) (rd tp m 0 dp a).2.2 st = z :: st from hev he1 st]
    exact hev9 zz st
  · rw [rsq_b hE1]
    have hwn : ¬ sc1 8011 = -1 := by omega
    refine RQ.seg 3 (pc' := 10) (L' := [some (.ref 80), some (.int (iI z)), none, none, none]) (st' := [.int (iI (-1)), .int (iI (sc1 8011))]) (g1 := (HW sc1 ar 82 oc rl ou tl, q)) rfl ?_
    refine RQ.if2 (a := (sc1 8011)) (b := (-1)) rfl rfl rfl rfl (by omega) (by omega) (fun _ => ?_) (fun (q : ¬ sc1 8011 ≠ (-1)) => absurd (show sc1 8011 ≠ (-1) from by omega) q)
    refine RQ.seg 1 (pc' := 95) (L' := [some (.ref 80), some (.int (iI z)), none, none, none]) (st' := [.int (iI z)]) (g1 := (HW sc1 ar 82 oc rl ou tl, q)) rfl ?_
    refine RQ.ret rfl rfl ?_
    exact ⟨_, sc1, rfl, ⟨fun z9 => absurd z9 (by decide), hz1⟩, rfl, hs1, hM1, fun z9 => absurd z9 hE1⟩
theorem ms82_2 {K : PK} {tp : List Int} {bg : Int} {ar : Nat → Int → Int} (ht : TpOK tp) {m : Nat} (p : MC K tp bg 640 82 ar m 1 164 6 [] []) (l : ML7_82 K tp bg ar m) : MC K tp bg 640 82 ar (m + 1) 2 165 7 [] [] := by
  intro D u dp a sc oc rl ou tl q hdu hdp hD hM hF
  have ht1 := ht.1
  obtain ⟨hv, hA, hW, hWr, hDp, hG⟩ := id hM
  obtain ⟨g1, g2⟩ := hG rfl
  replace g1 : sc 8010 = a := g1
  have hFu : 16 * ((tp.length : Int) - a) + 3 ≤ ((m + 1 : Nat) : Int) := hF
  refine CQ.of (own := 11) (n := 5) (ini := false) (rt := (some .int)) (cd := cd165) (by decide +kernel) rfl (by decide +kernel) rfl (Nat.le_of_ble_eq_true rfl) ?_
  rw [show rd tp (m + 1) 2 dp a = rsq (rd tp m 1 dp a) (rd tp m 7 dp) from rfl]
  refine RQ.seg 1 (pc' := 1) (L' := [some (.ref 80), none, none, none, none]) (st' := [.ref 80]) (g1 := (HW sc ar 82 oc rl ou tl, q)) rfl ?_
  refine RQ.callQ rfl rfl (CQ.up (p (D - 1) u dp a sc oc rl ou tl q hdu hdp (by omega) hM (by show 16 * ((tp.length : Int) - a) + 2 ≤ (m : Int); omega)) (by omega)) (fun rv9 g9 hc9 => ?_)
  obtain ⟨z, sc1, rfl, hz, rfl, hs1, hM1, hev⟩ := hc9
  have hz1 := hz.2
  obtain ⟨hv_1, hA_1, hW_1, hWr_1, hD_1, hG_1⟩ := id hM1
  refine RQ.seg 1 (pc' := 5) (L' := [some (.ref 80), some (.int (iI z)), none, none, none]) (st' := []) (g1 := (HW sc1 ar 82 oc rl ou tl, q)) rfl ?_
  rcases Decidable.em ((rd tp m 1 dp a).1 = -1) with he1 | hE1
  · obtain ⟨k1, k2⟩ := hG_1 he1
    have hg : a + 1 ≤ (rd tp m 1 dp a).2.1 ∧ _ := ((rd_ok (tp := tp) m).at 1 dp (a := a) (by omega)).2 he1
    refine RQ.im (l D u dp (rd tp m 1 dp a).2.1 z _ _ _ sc1 oc rl ou tl q hdu hdp hD ⟨hv_1, hA_1, hW_1.trans he1, by show (-1 : Int) ≤ -1 ∧ (-1 : Int) ≤ 160; omega, hD_1, fun _ => ⟨k1, k2⟩⟩ (by show 16 * ((tp.length : Int) - (rd tp m 1 dp a).2.1) + 1 ≤ (m : Int); omega) hz1) (fun vv gg hq => ?_)
    obtain ⟨z9, sc9, e9, hz9, e8, hs9, hM9, hev9⟩ := hq
    rw [rsq_p he1]
    refine ⟨z9, sc9, e9, hz9, e8, hs1.tr hs9, hM9, fun zz st => ?_⟩
    show ev _ ((rd tp m 1 dp a).2.2 ++ (rd tp m 7 dp (rd tp m 1 dp a).2.1).2.2) st = z9 :: st
    rw [ev_app, show ev (fun k => ar 84 (kc3 k)) (rd tp m 1 dp a).2.2 st = z :: st from hev he1 st]
    exact hev9 zz st
  · rw [rsq_b hE1]
    have hwn : ¬ sc1 8011 = -1 := by omega
    refine RQ.seg 3 (pc' := 10) (L' := [some (.ref 80), some (.int (iI z)), none, none, none]) (st' := [.int (iI (-1)), .int (iI (sc1 8011))]) (g1 := (HW sc1 ar 82 oc rl ou tl, q)) rfl ?_
    refine RQ.if2 (a := (sc1 8011)) (b := (-1)) rfl rfl rfl rfl (by omega) (by omega) (fun _ => ?_) (fun (q : ¬ sc1 8011 ≠ (-1)) => absurd (show sc1 8011 ≠ (-1) from by omega) q)
    refine RQ.seg 1 (pc' := 85) (L' := [some (.ref 80), some (.int (iI z)), none, none, none]) (st' := [.int (iI z)]) (g1 := (HW sc1 ar 82 oc rl ou tl, q)) rfl ?_
    refine RQ.ret rfl rfl ?_
    exact ⟨_, sc1, rfl, ⟨fun z9 => absurd z9 (by decide), hz1⟩, rfl, hs1, hM1, fun z9 => absurd z9 hE1⟩
