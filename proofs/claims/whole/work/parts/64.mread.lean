/-! the readers of the reference, by wip/tools -/
/-! the readers of the reference -/
def lkm (c : Int) : Int := if c = 0 then -1 else c
/-- bytes of a text as the reference sees them -/
def TvM (tp : List Int) (bg N b e : Int) (f : Int → Int) : Prop := (0 ≤ bg ∧ bg + 160 ≤ N) ∧ b = bg ∧ e = (tp.length : Int) ∧ ∀ k, 0 ≤ k → k < (tp.length : Int) → f (bg + k) = sgb (lat tp k)
theorem sgb_r {c : Int} (h : 1 ≤ c ∧ c ≤ 255) : -128 ≤ sgb c ∧ sgb c ≤ 127 ∧ (sgb c = 32 ↔ c = 32) ∧ (48 ≤ sgb c ∧ sgb c ≤ 57 ↔ 48 ≤ c ∧ c ≤ 57) := by unfold sgb; split <;> omega
theorem lkm_n {c : Int} (h : 1 ≤ c) : lkm c = c := if_neg (by omega)
theorem pw_m (c : Int) : pw (lkm c) = pw c := by unfold lkm; split; (rename_i h; rw [h]; rfl); rfl
theorem pb_m (c : Int) : pb (lkm c) = pb c := by unfold lkm; split; (rename_i h; rw [h]; rfl); rfl
theorem pl_m (c : Int) : pl (lkm c) = pl c := by unfold lkm; split; (rename_i h; rw [h]; rfl); rfl
theorem lkm_r {c : Int} (h : 0 ≤ c ∧ c ≤ 255) : -1 ≤ lkm c ∧ lkm c ≤ 255 ∧ lkm c ≠ 0 ∧ (0 < c → lkm c = c) ∧ (c = 0 → lkm c = -1) := by unfold lkm; split <;> omega
theorem nmn_2 {tp : List Int} {p : Int} (h : dig (tch tp p)) : nmn tp 2 p 0 = if dig (tch tp (p + 1)) then ((tch tp p - 48) * 10 + (tch tp (p + 1) - 48), p + 2) else (tch tp p - 48, p + 1) := by
  rw [nmn, if_pos h, nmn]
  split
  · rw [nmn, show p + 1 + 1 = p + 2 by omega, Int.zero_mul, Int.zero_add]
  · rw [Int.zero_mul, Int.zero_add]
theorem m_look81_l {K : PK} {d : Nat} {sc : Nat → Int} {ar : Nat → Int → Int} {oc : Nat} {rl : Nat → Option Nat} {ou : Nat → Int64} {tl : List PO} {q : Nat × Nat} {Q : Option Value → PG → Prop} {tp : List Int} {bg : Int} (ht : TpOK tp) (hv : TvM tp bg 160 (sc 8008) (sc 8009) (ar 81)) : ∀ (m : Nat) (a : Int) (hm : a + m = (tp.length : Int)) (ha : 0 ≤ a) (hk : Q (some (.int (iI (lkm (lk tp a))))) (HW (usc sc 8010 (sk tp a)) ar 81 oc rl ou tl, q)), RQ K (d + 0) 11 false (some .int) cd157 0 [some (.ref 80)] [] (HW (usc sc 8010 a) ar 81 oc rl ou tl, q) Q
  | 0, a, hm, ha, hk => by
    have ht1 := ht.1
    obtain ⟨hv1, hv2, hv3, hv4⟩ := id hv
    refine RQ.seg 4 (pc' := 8) (L' := [some (.ref 80)]) (st' := [.int (iI (sc 8009)), .int (iI a)]) (g1 := (HW (usc sc 8010 a) ar 81 oc rl ou tl, q)) rfl ?_
    refine RQ.to (L' := [some (.ref 80)]) (st' := [.int (iI (tp.length : Int)), .int (iI a)]) rfl (by rw [show sc 8009 = (tp.length : Int) from hv3]) ?_
    refine RQ.if2 (a := a) (b := (tp.length : Int)) rfl rfl rfl rfl (by omega) (by omega) (fun _ => ?_) (fun (q : ¬ (tp.length : Int) ≤ a) => absurd (show (tp.length : Int) ≤ a from by omega) q)
    refine RQ.seg 4 (pc' := 51) (L' := [some (.ref 80)]) (st' := [.int (iI (sc 8009)), .int (iI a)]) (g1 := (HW (usc sc 8010 a) ar 81 oc rl ou tl, q)) rfl ?_
    refine RQ.to (L' := [some (.ref 80)]) (st' := [.int (iI (tp.length : Int)), .int (iI a)]) rfl (by rw [show sc 8009 = (tp.length : Int) from hv3]) ?_
    refine RQ.if2 (a := a) (b := (tp.length : Int)) rfl rfl rfl rfl (by omega) (by omega) (fun _ => ?_) (fun (q : ¬ (tp.length : Int) ≤ a) => absurd (show (tp.length : Int) ≤ a from by omega) q)
    refine RQ.seg 1 (pc' := 76) (L' := [some (.ref 80)]) (st' := [.int (iI (-1))]) (g1 := (HW (usc sc 8010 a) ar 81 oc rl ou tl, q)) rfl ?_
    refine RQ.ret rfl rfl ?_
    have e9 : sk tp a = a := sk_f (by omega)
    rw [show lkm (lk tp a) = -1 by unfold lk; rw [e9, tch_out (by omega)]; rfl, e9] at hk
    exact hk
  | m + 1, a, hm, ha, hk => by
    have ht1 := ht.1
    obtain ⟨hv1, hv2, hv3, hv4⟩ := id hv
    have hla := ht.2 a (by omega) (by omega)
    have hsg := sgb_r hla
    refine RQ.seg 4 (pc' := 8) (L' := [some (.ref 80)]) (st' := [.int (iI (sc 8009)), .int (iI a)]) (g1 := (HW (usc sc 8010 a) ar 81 oc rl ou tl, q)) rfl ?_
    refine RQ.to (L' := [some (.ref 80)]) (st' := [.int (iI (tp.length : Int)), .int (iI a)]) rfl (by rw [show sc 8009 = (tp.length : Int) from hv3]) ?_
    refine RQ.if2 (a := a) (b := (tp.length : Int)) rfl rfl rfl rfl (by omega) (by omega) (fun (q : (tp.length : Int) ≤ a) => absurd q (show ¬ (tp.length : Int) ≤ a from by omega)) (fun _ => ?_)
    refine RQ.seg 4 (pc' := 19) (L' := [some (.ref 80)]) (st' := [.int (iI (sc 8008)), .ref 81]) (g1 := (HW (usc sc 8010 a) ar 81 oc rl ou tl, q)) rfl ?_
    refine RQ.to (L' := [some (.ref 80)]) (st' := [.int (iI bg), .ref 81]) rfl (by rw [show sc 8008 = bg from hv2]) ?_
    refine RQ.seg 3 (pc' := 24) (L' := [some (.ref 80)]) (st' := [.int ((iI bg) + (iI a)), .ref 81]) (g1 := (HW (usc sc 8010 a) ar 81 oc rl ou tl, q)) rfl ?_
    refine RQ.baldv (z := (bg + a)) (v := (sgb (lat tp a))) rfl (by simp only [iI_add, iI_sub, iI_mul, iI_neg]) rfl (by omega) (by decide) (hv4 a (by omega) (by omega)) ?_
    refine RQ.seg 1 (pc' := 27) (L' := [some (.ref 80)]) (st' := [.int (iI 32), .int (iI (sgb (lat tp a)))]) (g1 := (HW (usc sc 8010 a) ar 81 oc rl ou tl, q)) rfl ?_
    refine RQ.if2 (a := (sgb (lat tp a))) (b := 32) rfl rfl rfl rfl (by omega) (by omega) (fun (h2 : sgb (lat tp a) ≠ 32) => ?_) (fun (h2 : ¬ sgb (lat tp a) ≠ 32) => ?_)
    · skip
      refine RQ.seg 4 (pc' := 51) (L' := [some (.ref 80)]) (st' := [.int (iI (sc 8009)), .int (iI a)]) (g1 := (HW (usc sc 8010 a) ar 81 oc rl ou tl, q)) rfl ?_
      refine RQ.to (L' := [some (.ref 80)]) (st' := [.int (iI (tp.length : Int)), .int (iI a)]) rfl (by rw [show sc 8009 = (tp.length : Int) from hv3]) ?_
      refine RQ.if2 (a := a) (b := (tp.length : Int)) rfl rfl rfl rfl (by omega) (by omega) (fun (q : (tp.length : Int) ≤ a) => absurd q (show ¬ (tp.length : Int) ≤ a from by omega)) (fun _ => ?_)
      refine RQ.seg 4 (pc' := 62) (L' := [some (.ref 80)]) (st' := [.int (iI (sc 8008)), .ref 81]) (g1 := (HW (usc sc 8010 a) ar 81 oc rl ou tl, q)) rfl ?_
      refine RQ.to (L' := [some (.ref 80)]) (st' := [.int (iI bg), .ref 81]) rfl (by rw [show sc 8008 = bg from hv2]) ?_
      refine RQ.seg 3 (pc' := 67) (L' := [some (.ref 80)]) (st' := [.int ((iI bg) + (iI a)), .ref 81]) (g1 := (HW (usc sc 8010 a) ar 81 oc rl ou tl, q)) rfl ?_
      refine RQ.baldv (z := (bg + a)) (v := (sgb (lat tp a))) rfl (by simp only [iI_add, iI_sub, iI_mul, iI_neg]) rfl (by omega) (by decide) (hv4 a (by omega) (by omega)) ?_
      refine RQ.seg 1 (pc' := 71) (L' := [some (.ref 80)]) (st' := [.int (iI 255), .int (iI (sgb (lat tp a)))]) (g1 := (HW (usc sc 8010 a) ar 81 oc rl ou tl, q)) rfl ?_
      refine RQ.iandm 8 (a := (sgb (lat tp a))) (m := 255) (p := 256) rfl rfl rfl (by decide) (by decide) (by decide) ?_
      refine RQ.seg 1 (pc' := 76) (L' := [some (.ref 80)]) (st' := [.int (iI ((sgb (lat tp a)) % 256))]) (g1 := (HW (usc sc 8010 a) ar 81 oc rl ou tl, q)) rfl ?_
      refine RQ.ret rfl rfl ?_
      have e9 : sk tp a = a := sk_f (by omega)
      rw [show lkm (lk tp a) = sgb (lat tp a) % 256 by unfold lk; rw [e9, tch_in (by omega), sgb_m (by omega)]; exact lkm_n (by omega), e9] at hk
      exact hk
    · skip
      refine RQ.seg 5 (pc' := 37) (L' := [some (.ref 80)]) (st' := [.int ((iI a) + (iI 1)), .ref 80]) (g1 := (HW (usc sc 8010 a) ar 81 oc rl ou tl, q)) rfl ?_
      refine RQ.to (L' := [some (.ref 80)]) (st' := [.int (iI (a + 1)), .ref 80]) rfl (by simp only [iI_add, iI_sub, iI_mul, iI_neg]) ?_
      refine RQ.seg 2 (pc' := 0) (L' := [some (.ref 80)]) (st' := []) (g1 := (HW (usc sc 8010 (a + 1)) ar 81 oc rl ou tl, q)) rfl ?_
      rw [show lk tp a = lk tp (a + 1) by unfold lk; rw [sk_t (by omega)], sk_t (by omega)] at hk
      exact m_look81_l ht hv m (a + 1) (by omega) (by omega) hk
theorem m_look81 {K : PK} {d : Nat} {sc : Nat → Int} {ar : Nat → Int → Int} {oc : Nat} {rl : Nat → Option Nat} {ou : Nat → Int64} {tl : List PO} {q : Nat × Nat} {tp : List Int} {bg : Int} (ht : TpOK tp) (hv : TvM tp bg 160 (sc 8008) (sc 8009) (ar 81)) {a : Int} (ha : sc 8010 = a) (hr : 0 ≤ a ∧ a ≤ (tp.length : Int)) : CallR K (d + 1) 157 [.ref 80] (HW sc ar 81 oc rl ou tl, q) (some (.int (iI (lkm (lk tp a))))) (HW (usc sc 8010 (sk tp a)) ar 81 oc rl ou tl, q) := by
  apply CQ.x
  refine CQ.of (own := 11) (n := 1) (ini := false) (rt := (some .int)) (cd := cd157) (by decide +kernel) rfl (by decide +kernel) rfl (Nat.le_of_ble_eq_true rfl) ?_
  refine RQ.hp (g1 := (HW (usc sc 8010 a) ar 81 oc rl ou tl, q)) (HW_e (by rw [← ha]; exact (usc_id sc 8010).symm) rfl) ?_
  exact m_look81_l ht hv ((tp.length : Int) - a).toNat a (by omega) hr.1 ⟨rfl, rfl⟩
theorem m_dig81t {K : PK} {d : Nat} {sc : Nat → Int} {ar : Nat → Int → Int} {oc : Nat} {rl : Nat → Option Nat} {ou : Nat → Int64} {tl : List PO} {q : Nat × Nat} {tp : List Int} {bg : Int} (ht : TpOK tp) (hv : TvM tp bg 160 (sc 8008) (sc 8009) (ar 81)) {a : Int} (ha : sc 8010 = a) (hr : 0 ≤ a ∧ a ≤ (tp.length : Int)) (hc : dig (tch tp a)) : CallR K (d + 1) 161 [.ref 80] (HW sc ar 81 oc rl ou tl, q) (some (.int (iI 1))) (HW sc ar 81 oc rl ou tl, q) := by
  apply CQ.x
  have ht1 := ht.1
  obtain ⟨hv1, hv2, hv3, hv4⟩ := id hv
  have hcr := tch_r ht a
  have hin : a < (tp.length : Int) → tch tp a = lat tp a ∧ 1 ≤ lat tp a ∧ lat tp a ≤ 255 := fun z => ⟨tch_in ⟨hr.1, z⟩, ht.2 a hr.1 z⟩
  have hou : ¬ a < (tp.length : Int) → tch tp a = 0 := fun z => tch_out (fun q => z q.2)
  refine CQ.of (own := 11) (n := 1) (ini := false) (rt := (some .boolean)) (cd := cd161) (by decide +kernel) rfl (by decide +kernel) rfl (Nat.le_of_ble_eq_true rfl) ?_
  refine RQ.seg 2 (pc' := 4) (L' := [some (.ref 80)]) (st' := [.int (iI (sc 8010))]) (g1 := (HW sc ar 81 oc rl ou tl, q)) rfl ?_
  refine RQ.to (L' := [some (.ref 80)]) (st' := [.int (iI a)]) rfl (by rw [show sc 8010 = a from ha]) ?_
  refine RQ.seg 2 (pc' := 8) (L' := [some (.ref 80)]) (st' := [.int (iI (sc 8009)), .int (iI a)]) (g1 := (HW sc ar 81 oc rl ou tl, q)) rfl ?_
  refine RQ.to (L' := [some (.ref 80)]) (st' := [.int (iI (tp.length : Int)), .int (iI a)]) rfl (by rw [show sc 8009 = (tp.length : Int) from hv3]) ?_
  refine RQ.if2 (a := a) (b := (tp.length : Int)) rfl rfl rfl rfl (by omega) (by omega) (fun (h1 : (tp.length : Int) ≤ a) => ?_) (fun (h1 : ¬ (tp.length : Int) ≤ a) => ?_)
  · skip
    have hi1 := hou (by omega)
    refine RQ.seg 1 (pc' := 54) (L' := [some (.ref 80)]) (st' := [.int (iI 0)]) (g1 := (HW sc ar 81 oc rl ou tl, q)) rfl ?_
    refine RQ.ret rfl rfl ?_
    first | exact ⟨rfl, rfl⟩ | (exfalso; omega)
  · skip
    obtain ⟨hi1, hi2⟩ := hin (by omega)
    have hsg := sgb_r hi2
    refine RQ.seg 4 (pc' := 19) (L' := [some (.ref 80)]) (st' := [.int (iI (sc 8008)), .ref 81]) (g1 := (HW sc ar 81 oc rl ou tl, q)) rfl ?_
    refine RQ.to (L' := [some (.ref 80)]) (st' := [.int (iI bg), .ref 81]) rfl (by rw [show sc 8008 = bg from hv2]) ?_
    refine RQ.seg 2 (pc' := 23) (L' := [some (.ref 80)]) (st' := [.int (iI (sc 8010)), .int (iI bg), .ref 81]) (g1 := (HW sc ar 81 oc rl ou tl, q)) rfl ?_
    refine RQ.to (L' := [some (.ref 80)]) (st' := [.int (iI a), .int (iI bg), .ref 81]) rfl (by rw [show sc 8010 = a from ha]) ?_
    refine RQ.seg 1 (pc' := 24) (L' := [some (.ref 80)]) (st' := [.int ((iI bg) + (iI a)), .ref 81]) (g1 := (HW sc ar 81 oc rl ou tl, q)) rfl ?_
    refine RQ.baldv (z := (bg + a)) (v := (sgb (lat tp a))) rfl (by simp only [iI_add, iI_sub, iI_mul, iI_neg]) rfl (by omega) (by decide) (hv4 a (by omega) (by omega)) ?_
    refine RQ.seg 1 (pc' := 27) (L' := [some (.ref 80)]) (st' := [.int (iI 48), .int (iI (sgb (lat tp a)))]) (g1 := (HW sc ar 81 oc rl ou tl, q)) rfl ?_
    refine RQ.if2 (a := (sgb (lat tp a))) (b := 48) rfl rfl rfl rfl (by omega) (by omega) (fun (h2 : sgb (lat tp a) < 48) => ?_) (fun (h2 : ¬ sgb (lat tp a) < 48) => ?_)
    · skip
      refine RQ.seg 1 (pc' := 54) (L' := [some (.ref 80)]) (st' := [.int (iI 0)]) (g1 := (HW sc ar 81 oc rl ou tl, q)) rfl ?_
      refine RQ.ret rfl rfl ?_
      first | exact ⟨rfl, rfl⟩ | (exfalso; omega)
    · skip
      refine RQ.seg 4 (pc' := 38) (L' := [some (.ref 80)]) (st' := [.int (iI (sc 8008)), .ref 81]) (g1 := (HW sc ar 81 oc rl ou tl, q)) rfl ?_
      refine RQ.to (L' := [some (.ref 80)]) (st' := [.int (iI bg), .ref 81]) rfl (by rw [show sc 8008 = bg from hv2]) ?_
      refine RQ.seg 2 (pc' := 42) (L' := [some (.ref 80)]) (st' := [.int (iI (sc 8010)), .int (iI bg), .ref 81]) (g1 := (HW sc ar 81 oc rl ou tl, q)) rfl ?_
      refine RQ.to (L' := [some (.ref 80)]) (st' := [.int (iI a), .int (iI bg), .ref 81]) rfl (by rw [show sc 8010 = a from ha]) ?_
      refine RQ.seg 1 (pc' := 43) (L' := [some (.ref 80)]) (st' := [.int ((iI bg) + (iI a)), .ref 81]) (g1 := (HW sc ar 81 oc rl ou tl, q)) rfl ?_
      refine RQ.baldv (z := (bg + a)) (v := (sgb (lat tp a))) rfl (by simp only [iI_add, iI_sub, iI_mul, iI_neg]) rfl (by omega) (by decide) (hv4 a (by omega) (by omega)) ?_
      refine RQ.seg 1 (pc' := 46) (L' := [some (.ref 80)]) (st' := [.int (iI 57), .int (iI (sgb (lat tp a)))]) (g1 := (HW sc ar 81 oc rl ou tl, q)) rfl ?_
      refine RQ.if2 (a := (sgb (lat tp a))) (b := 57) rfl rfl rfl rfl (by omega) (by omega) (fun (h3 : 57 < sgb (lat tp a)) => ?_) (fun (h3 : ¬ 57 < sgb (lat tp a)) => ?_)
      · skip
        refine RQ.seg 1 (pc' := 54) (L' := [some (.ref 80)]) (st' := [.int (iI 0)]) (g1 := (HW sc ar 81 oc rl ou tl, q)) rfl ?_
        refine RQ.ret rfl rfl ?_
        first | exact ⟨rfl, rfl⟩ | (exfalso; omega)
      · skip
        refine RQ.seg 2 (pc' := 54) (L' := [some (.ref 80)]) (st' := [.int (iI 1)]) (g1 := (HW sc ar 81 oc rl ou tl, q)) rfl ?_
        refine RQ.ret rfl rfl ?_
        first | exact ⟨rfl, rfl⟩ | (exfalso; omega)
theorem m_dig81f {K : PK} {d : Nat} {sc : Nat → Int} {ar : Nat → Int → Int} {oc : Nat} {rl : Nat → Option Nat} {ou : Nat → Int64} {tl : List PO} {q : Nat × Nat} {tp : List Int} {bg : Int} (ht : TpOK tp) (hv : TvM tp bg 160 (sc 8008) (sc 8009) (ar 81)) {a : Int} (ha : sc 8010 = a) (hr : 0 ≤ a ∧ a ≤ (tp.length : Int)) (hc : ¬ dig (tch tp a)) : CallR K (d + 1) 161 [.ref 80] (HW sc ar 81 oc rl ou tl, q) (some (.int (iI 0))) (HW sc ar 81 oc rl ou tl, q) := by
  apply CQ.x
  have ht1 := ht.1
  obtain ⟨hv1, hv2, hv3, hv4⟩ := id hv
  have hcr := tch_r ht a
  have hin : a < (tp.length : Int) → tch tp a = lat tp a ∧ 1 ≤ lat tp a ∧ lat tp a ≤ 255 := fun z => ⟨tch_in ⟨hr.1, z⟩, ht.2 a hr.1 z⟩
  have hou : ¬ a < (tp.length : Int) → tch tp a = 0 := fun z => tch_out (fun q => z q.2)
  refine CQ.of (own := 11) (n := 1) (ini := false) (rt := (some .boolean)) (cd := cd161) (by decide +kernel) rfl (by decide +kernel) rfl (Nat.le_of_ble_eq_true rfl) ?_
  refine RQ.seg 2 (pc' := 4) (L' := [some (.ref 80)]) (st' := [.int (iI (sc 8010))]) (g1 := (HW sc ar 81 oc rl ou tl, q)) rfl ?_
  refine RQ.to (L' := [some (.ref 80)]) (st' := [.int (iI a)]) rfl (by rw [show sc 8010 = a from ha]) ?_
  refine RQ.seg 2 (pc' := 8) (L' := [some (.ref 80)]) (st' := [.int (iI (sc 8009)), .int (iI a)]) (g1 := (HW sc ar 81 oc rl ou tl, q)) rfl ?_
  refine RQ.to (L' := [some (.ref 80)]) (st' := [.int (iI (tp.length : Int)), .int (iI a)]) rfl (by rw [show sc 8009 = (tp.length : Int) from hv3]) ?_
  refine RQ.if2 (a := a) (b := (tp.length : Int)) rfl rfl rfl rfl (by omega) (by omega) (fun (h1 : (tp.length : Int) ≤ a) => ?_) (fun (h1 : ¬ (tp.length : Int) ≤ a) => ?_)
  · skip
    have hi1 := hou (by omega)
    refine RQ.seg 1 (pc' := 54) (L' := [some (.ref 80)]) (st' := [.int (iI 0)]) (g1 := (HW sc ar 81 oc rl ou tl, q)) rfl ?_
    refine RQ.ret rfl rfl ?_
    first | exact ⟨rfl, rfl⟩ | (exfalso; omega)
  · skip
    obtain ⟨hi1, hi2⟩ := hin (by omega)
    have hsg := sgb_r hi2
    refine RQ.seg 4 (pc' := 19) (L' := [some (.ref 80)]) (st' := [.int (iI (sc 8008)), .ref 81]) (g1 := (HW sc ar 81 oc rl ou tl, q)) rfl ?_
    refine RQ.to (L' := [some (.ref 80)]) (st' := [.int (iI bg), .ref 81]) rfl (by rw [show sc 8008 = bg from hv2]) ?_
    refine RQ.seg 2 (pc' := 23) (L' := [some (.ref 80)]) (st' := [.int (iI (sc 8010)), .int (iI bg), .ref 81]) (g1 := (HW sc ar 81 oc rl ou tl, q)) rfl ?_
    refine RQ.to (L' := [some (.ref 80)]) (st' := [.int (iI a), .int (iI bg), .ref 81]) rfl (by rw [show sc 8010 = a from ha]) ?_
    refine RQ.seg 1 (pc' := 24) (L' := [some (.ref 80)]) (st' := [.int ((iI bg) + (iI a)), .ref 81]) (g1 := (HW sc ar 81 oc rl ou tl, q)) rfl ?_
    refine RQ.baldv (z := (bg + a)) (v := (sgb (lat tp a))) rfl (by simp only [iI_add, iI_sub, iI_mul, iI_neg]) rfl (by omega) (by decide) (hv4 a (by omega) (by omega)) ?_
    refine RQ.seg 1 (pc' := 27) (L' := [some (.ref 80)]) (st' := [.int (iI 48), .int (iI (sgb (lat tp a)))]) (g1 := (HW sc ar 81 oc rl ou tl, q)) rfl ?_
    refine RQ.if2 (a := (sgb (lat tp a))) (b := 48) rfl rfl rfl rfl (by omega) (by omega) (fun (h2 : sgb (lat tp a) < 48) => ?_) (fun (h2 : ¬ sgb (lat tp a) < 48) => ?_)
    · skip
      refine RQ.seg 1 (pc' := 54) (L' := [some (.ref 80)]) (st' := [.int (iI 0)]) (g1 := (HW sc ar 81 oc rl ou tl, q)) rfl ?_
      refine RQ.ret rfl rfl ?_
      first | exact ⟨rfl, rfl⟩ | (exfalso; omega)
    · skip
      refine RQ.seg 4 (pc' := 38) (L' := [some (.ref 80)]) (st' := [.int (iI (sc 8008)), .ref 81]) (g1 := (HW sc ar 81 oc rl ou tl, q)) rfl ?_
      refine RQ.to (L' := [some (.ref 80)]) (st' := [.int (iI bg), .ref 81]) rfl (by rw [show sc 8008 = bg from hv2]) ?_
      refine RQ.seg 2 (pc' := 42) (L' := [some (.ref 80)]) (st' := [.int (iI (sc 8010)), .int (iI bg), .ref 81]) (g1 := (HW sc ar 81 oc rl ou tl, q)) rfl ?_
      refine RQ.to (L' := [some (.ref 80)]) (st' := [.int (iI a), .int (iI bg), .ref 81]) rfl (by rw [show sc 8010 = a from ha]) ?_
      refine RQ.seg 1 (pc' := 43) (L' := [some (.ref 80)]) (st' := [.int ((iI bg) + (iI a)), .ref 81]) (g1 := (HW sc ar 81 oc rl ou tl, q)) rfl ?_
      refine RQ.baldv (z := (bg + a)) (v := (sgb (lat tp a))) rfl (by simp only [iI_add, iI_sub, iI_mul, iI_neg]) rfl (by omega) (by decide) (hv4 a (by omega) (by omega)) ?_
      refine RQ.seg 1 (pc' := 46) (L' := [some (.ref 80)]) (st' := [.int (iI 57), .int (iI (sgb (lat tp a)))]) (g1 := (HW sc ar 81 oc rl ou tl, q)) rfl ?_
      refine RQ.if2 (a := (sgb (lat tp a))) (b := 57) rfl rfl rfl rfl (by omega) (by omega) (fun (h3 : 57 < sgb (lat tp a)) => ?_) (fun (h3 : ¬ 57 < sgb (lat tp a)) => ?_)
      · skip
        refine RQ.seg 1 (pc' := 54) (L' := [some (.ref 80)]) (st' := [.int (iI 0)]) (g1 := (HW sc ar 81 oc rl ou tl, q)) rfl ?_
        refine RQ.ret rfl rfl ?_
        first | exact ⟨rfl, rfl⟩ | (exfalso; omega)
      · skip
        refine RQ.seg 2 (pc' := 54) (L' := [some (.ref 80)]) (st' := [.int (iI 1)]) (g1 := (HW sc ar 81 oc rl ou tl, q)) rfl ?_
        refine RQ.ret rfl rfl ?_
        first | exact ⟨rfl, rfl⟩ | (exfalso; omega)
theorem m_here81 {K : PK} {d : Nat} {sc : Nat → Int} {ar : Nat → Int → Int} {oc : Nat} {rl : Nat → Option Nat} {ou : Nat → Int64} {tl : List PO} {q : Nat × Nat} {tp : List Int} {bg : Int} (ht : TpOK tp) (hv : TvM tp bg 160 (sc 8008) (sc 8009) (ar 81)) {a : Int} (ha : sc 8010 = a) (hr : 0 ≤ a ∧ a ≤ (tp.length : Int)) : CallR K (d + 1) 174 [.ref 80] (HW sc ar 81 oc rl ou tl, q) (some (.int (iI (lkm (tch tp a))))) (HW sc ar 81 oc rl ou tl, q) := by
  apply CQ.x
  have ht1 := ht.1
  obtain ⟨hv1, hv2, hv3, hv4⟩ := id hv
  have hcr := tch_r ht a
  have hin : a < (tp.length : Int) → tch tp a = lat tp a ∧ 1 ≤ lat tp a ∧ lat tp a ≤ 255 := fun z => ⟨tch_in ⟨hr.1, z⟩, ht.2 a hr.1 z⟩
  have hou : ¬ a < (tp.length : Int) → tch tp a = 0 := fun z => tch_out (fun q => z q.2)
  refine CQ.of (own := 11) (n := 1) (ini := false) (rt := (some .int)) (cd := cd174) (by decide +kernel) rfl (by decide +kernel) rfl (Nat.le_of_ble_eq_true rfl) ?_
  refine RQ.seg 2 (pc' := 4) (L' := [some (.ref 80)]) (st' := [.int (iI (sc 8010))]) (g1 := (HW sc ar 81 oc rl ou tl, q)) rfl ?_
  refine RQ.to (L' := [some (.ref 80)]) (st' := [.int (iI a)]) rfl (by rw [show sc 8010 = a from ha]) ?_
  refine RQ.seg 2 (pc' := 8) (L' := [some (.ref 80)]) (st' := [.int (iI (sc 8009)), .int (iI a)]) (g1 := (HW sc ar 81 oc rl ou tl, q)) rfl ?_
  refine RQ.to (L' := [some (.ref 80)]) (st' := [.int (iI (tp.length : Int)), .int (iI a)]) rfl (by rw [show sc 8009 = (tp.length : Int) from hv3]) ?_
  refine RQ.if2 (a := a) (b := (tp.length : Int)) rfl rfl rfl rfl (by omega) (by omega) (fun (h1 : (tp.length : Int) ≤ a) => ?_) (fun (h1 : ¬ (tp.length : Int) ≤ a) => ?_)
  · skip
    have hi1 := hou (by omega)
    refine RQ.seg 1 (pc' := 33) (L' := [some (.ref 80)]) (st' := [.int (iI (-1))]) (g1 := (HW sc ar 81 oc rl ou tl, q)) rfl ?_
    refine RQ.ret rfl rfl ?_
    exact ⟨by rw [hi1]; rfl, rfl⟩
  · skip
    obtain ⟨hi1, hi2⟩ := hin (by omega)
    have hsg := sgb_r hi2
    refine RQ.seg 4 (pc' := 19) (L' := [some (.ref 80)]) (st' := [.int (iI (sc 8008)), .ref 81]) (g1 := (HW sc ar 81 oc rl ou tl, q)) rfl ?_
    refine RQ.to (L' := [some (.ref 80)]) (st' := [.int (iI bg), .ref 81]) rfl (by rw [show sc 8008 = bg from hv2]) ?_
    refine RQ.seg 2 (pc' := 23) (L' := [some (.ref 80)]) (st' := [.int (iI (sc 8010)), .int (iI bg), .ref 81]) (g1 := (HW sc ar 81 oc rl ou tl, q)) rfl ?_
    refine RQ.to (L' := [some (.ref 80)]) (st' := [.int (iI a), .int (iI bg), .ref 81]) rfl (by rw [show sc 8010 = a from ha]) ?_
    refine RQ.seg 1 (pc' := 24) (L' := [some (.ref 80)]) (st' := [.int ((iI bg) + (iI a)), .ref 81]) (g1 := (HW sc ar 81 oc rl ou tl, q)) rfl ?_
    refine RQ.baldv (z := (bg + a)) (v := (sgb (lat tp a))) rfl (by simp only [iI_add, iI_sub, iI_mul, iI_neg]) rfl (by omega) (by decide) (hv4 a (by omega) (by omega)) ?_
    refine RQ.seg 1 (pc' := 28) (L' := [some (.ref 80)]) (st' := [.int (iI 255), .int (iI (sgb (lat tp a)))]) (g1 := (HW sc ar 81 oc rl ou tl, q)) rfl ?_
    refine RQ.iandm 8 (a := (sgb (lat tp a))) (m := 255) (p := 256) rfl rfl rfl (by decide) (by decide) (by decide) ?_
    refine RQ.seg 1 (pc' := 33) (L' := [some (.ref 80)]) (st' := [.int (iI ((sgb (lat tp a)) % 256))]) (g1 := (HW sc ar 81 oc rl ou tl, q)) rfl ?_
    refine RQ.ret rfl rfl ?_
    exact ⟨by rw [hi1, lkm_n (by omega), sgb_m (by omega)], rfl⟩
theorem m_look82_l {K : PK} {d : Nat} {sc : Nat → Int} {ar : Nat → Int → Int} {oc : Nat} {rl : Nat → Option Nat} {ou : Nat → Int64} {tl : List PO} {q : Nat × Nat} {Q : Option Value → PG → Prop} {tp : List Int} {bg : Int} (ht : TpOK tp) (hv : TvM tp bg 640 (sc 8008) (sc 8009) (ar 82)) : ∀ (m : Nat) (a : Int) (hm : a + m = (tp.length : Int)) (ha : 0 ≤ a) (hk : Q (some (.int (iI (lkm (lk tp a))))) (HW (usc sc 8010 (sk tp a)) ar 82 oc rl ou tl, q)), RQ K (d + 0) 11 false (some .int) cd157 0 [some (.ref 80)] [] (HW (usc sc 8010 a) ar 82 oc rl ou tl, q) Q
  | 0, a, hm, ha, hk => by
    have ht1 := ht.1
    obtain ⟨hv1, hv2, hv3, hv4⟩ := id hv
    refine RQ.seg 4 (pc' := 8) (L' := [some (.ref 80)]) (st' := [.int (iI (sc 8009)), .int (iI a)]) (g1 := (HW (usc sc 8010 a) ar 82 oc rl ou tl, q)) rfl ?_
    refine RQ.to (L' := [some (.ref 80)]) (st' := [.int (iI (tp.length : Int)), .int (iI a)]) rfl (by rw [show sc 8009 = (tp.length : Int) from hv3]) ?_
    refine RQ.if2 (a := a) (b := (tp.length : Int)) rfl rfl rfl rfl (by omega) (by omega) (fun _ => ?_) (fun (q : ¬ (tp.length : Int) ≤ a) => absurd (show (tp.length : Int) ≤ a from by omega) q)
    refine RQ.seg 4 (pc' := 51) (L' := [some (.ref 80)]) (st' := [.int (iI (sc 8009)), .int (iI a)]) (g1 := (HW (usc sc 8010 a) ar 82 oc rl ou tl, q)) rfl ?_
    refine RQ.to (L' := [some (.ref 80)]) (st' := [.int (iI (tp.length : Int)), .int (iI a)]) rfl (by rw [show sc 8009 = (tp.length : Int) from hv3]) ?_
    refine RQ.if2 (a := a) (b := (tp.length : Int)) rfl rfl rfl rfl (by omega) (by omega) (fun _ => ?_) (fun (q : ¬ (tp.length : Int) ≤ a) => absurd (show (tp.length : Int) ≤ a from by omega) q)
    refine RQ.seg 1 (pc' := 76) (L' := [some (.ref 80)]) (st' := [.int (iI (-1))]) (g1 := (HW (usc sc 8010 a) ar 82 oc rl ou tl, q)) rfl ?_
    refine RQ.ret rfl rfl ?_
    have e9 : sk tp a = a := sk_f (by omega)
    rw [show lkm (lk tp a) = -1 by unfold lk; rw [e9, tch_out (by omega)]; rfl, e9] at hk
    exact hk
  | m + 1, a, hm, ha, hk => by
    have ht1 := ht.1
    obtain ⟨hv1, hv2, hv3, hv4⟩ := id hv
    have hla := ht.2 a (by omega) (by omega)
    have hsg := sgb_r hla
    refine RQ.seg 4 (pc' := 8) (L' := [some (.ref 80)]) (st' := [.int (iI (sc 8009)), .int (iI a)]) (g1 := (HW (usc sc 8010 a) ar 82 oc rl ou tl, q)) rfl ?_
    refine RQ.to (L' := [some (.ref 80)]) (st' := [.int (iI (tp.length : Int)), .int (iI a)]) rfl (by rw [show sc 8009 = (tp.length : Int) from hv3]) ?_
    refine RQ.if2 (a := a) (b := (tp.length : Int)) rfl rfl rfl rfl (by omega) (by omega) (fun (q : (tp.length : Int) ≤ a) => absurd q (show ¬ (tp.length : Int) ≤ a from by omega)) (fun _ => ?_)
    refine RQ.seg 4 (pc' := 19) (L' := [some (.ref 80)]) (st' := [.int (iI (sc 8008)), .ref 82]) (g1 := (HW (usc sc 8010 a) ar 82 oc rl ou tl, q)) rfl ?_
    refine RQ.to (L' := [some (.ref 80)]) (st' := [.int (iI bg), .ref 82]) rfl (by rw [show sc 8008 = bg from hv2]) ?_
    refine RQ.seg 3 (pc' := 24) (L' := [some (.ref 80)]) (st' := [.int ((iI bg) + (iI a)), .ref 82]) (g1 := (HW (usc sc 8010 a) ar 82 oc rl ou tl, q)) rfl ?_
    refine RQ.baldv (z := (bg + a)) (v := (sgb (lat tp a))) rfl (by simp only [iI_add, iI_sub, iI_mul, iI_neg]) rfl (by omega) (by decide) (hv4 a (by omega) (by omega)) ?_
    refine RQ.seg 1 (pc' := 27) (L' := [some (.ref 80)]) (st' := [.int (iI 32), .int (iI (sgb (lat tp a)))]) (g1 := (HW (usc sc 8010 a) ar 82 oc rl ou tl, q)) rfl ?_
    refine RQ.if2 (a := (sgb (lat tp a))) (b := 32) rfl rfl rfl rfl (by omega) (by omega) (fun (h2 : sgb (lat tp a) ≠ 32) => ?_) (fun (h2 : ¬ sgb (lat tp a) ≠ 32) => ?_)
    · skip
      refine RQ.seg 4 (pc' := 51) (L' := [some (.ref 80)]) (st' := [.int (iI (sc 8009)), .int (iI a)]) (g1 := (HW (usc sc 8010 a) ar 82 oc rl ou tl, q)) rfl ?_
      refine RQ.to (L' := [some (.ref 80)]) (st' := [.int (iI (tp.length : Int)), .int (iI a)]) rfl (by rw [show sc 8009 = (tp.length : Int) from hv3]) ?_
      refine RQ.if2 (a := a) (b := (tp.length : Int)) rfl rfl rfl rfl (by omega) (by omega) (fun (q : (tp.length : Int) ≤ a) => absurd q (show ¬ (tp.length : Int) ≤ a from by omega)) (fun _ => ?_)
      refine RQ.seg 4 (pc' := 62) (L' := [some (.ref 80)]) (st' := [.int (iI (sc 8008)), .ref 82]) (g1 := (HW (usc sc 8010 a) ar 82 oc rl ou tl, q)) rfl ?_
      refine RQ.to (L' := [some (.ref 80)]) (st' := [.int (iI bg), .ref 82]) rfl (by rw [show sc 8008 = bg from hv2]) ?_
      refine RQ.seg 3 (pc' := 67) (L' := [some (.ref 80)]) (st' := [.int ((iI bg) + (iI a)), .ref 82]) (g1 := (HW (usc sc 8010 a) ar 82 oc rl ou tl, q)) rfl ?_
      refine RQ.baldv (z := (bg + a)) (v := (sgb (lat tp a))) rfl (by simp only [iI_add, iI_sub, iI_mul, iI_neg]) rfl (by omega) (by decide) (hv4 a (by omega) (by omega)) ?_
      refine RQ.seg 1 (pc' := 71) (L' := [some (.ref 80)]) (st' := [.int (iI 255), .int (iI (sgb (lat tp a)))]) (g1 := (HW (usc sc 8010 a) ar 82 oc rl ou tl, q)) rfl ?_
      refine RQ.iandm 8 (a := (sgb (lat tp a))) (m := 255) (p := 256) rfl rfl rfl (by decide) (by decide) (by decide) ?_
      refine RQ.seg 1 (pc' := 76) (L' := [some (.ref 80)]) (st' := [.int (iI ((sgb (lat tp a)) % 256))]) (g1 := (HW (usc sc 8010 a) ar 82 oc rl ou tl, q)) rfl ?_
      refine RQ.ret rfl rfl ?_
      have e9 : sk tp a = a := sk_f (by omega)
      rw [show lkm (lk tp a) = sgb (lat tp a) % 256 by unfold lk; rw [e9, tch_in (by omega), sgb_m (by omega)]; exact lkm_n (by omega), e9] at hk
      exact hk
    · skip
      refine RQ.seg 5 (pc' := 37) (L' := [some (.ref 80)]) (st' := [.int ((iI a) + (iI 1)), .ref 80]) (g1 := (HW (usc sc 8010 a) ar 82 oc rl ou tl, q)) rfl ?_
      refine RQ.to (L' := [some (.ref 80)]) (st' := [.int (iI (a + 1)), .ref 80]) rfl (by simp only [iI_add, iI_sub, iI_mul, iI_neg]) ?_
      refine RQ.seg 2 (pc' := 0) (L' := [some (.ref 80)]) (st' := []) (g1 := (HW (usc sc 8010 (a + 1)) ar 82 oc rl ou tl, q)) rfl ?_
      rw [show lk tp a = lk tp (a + 1) by unfold lk; rw [sk_t (by omega)], sk_t (by omega)] at hk
      exact m_look82_l ht hv m (a + 1) (by omega) (by omega) hk
theorem m_look82 {K : PK} {d : Nat} {sc : Nat → Int} {ar : Nat → Int → Int} {oc : Nat} {rl : Nat → Option Nat} {ou : Nat → Int64} {tl : List PO} {q : Nat × Nat} {tp : List Int} {bg : Int} (ht : TpOK tp) (hv : TvM tp bg 640 (sc 8008) (sc 8009) (ar 82)) {a : Int} (ha : sc 8010 = a) (hr : 0 ≤ a ∧ a ≤ (tp.length : Int)) : CallR K (d + 1) 157 [.ref 80] (HW sc ar 82 oc rl ou tl, q) (some (.int (iI (lkm (lk tp a))))) (HW (usc sc 8010 (sk tp a)) ar 82 oc rl ou tl, q) := by
  apply CQ.x
  refine CQ.of (own := 11) (n := 1) (ini := false) (rt := (some .int)) (cd := cd157) (by decide +kernel) rfl (by decide +kernel) rfl (Nat.le_of_ble_eq_true rfl) ?_
  refine RQ.hp (g1 := (HW (usc sc 8010 a) ar 82 oc rl ou tl, q)) (HW_e (by rw [← ha]; exact (usc_id sc 8010).symm) rfl) ?_
  exact m_look82_l ht hv ((tp.length : Int) - a).toNat a (by omega) hr.1 ⟨rfl, rfl⟩
theorem m_dig82t {K : PK} {d : Nat} {sc : Nat → Int} {ar : Nat → Int → Int} {oc : Nat} {rl : Nat → Option Nat} {ou : Nat → Int64} {tl : List PO} {q : Nat × Nat} {tp : List Int} {bg : Int} (ht : TpOK tp) (hv : TvM tp bg 640 (sc 8008) (sc 8009) (ar 82)) {a : Int} (ha : sc 8010 = a) (hr : 0 ≤ a ∧ a ≤ (tp.length : Int)) (hc : dig (tch tp a)) : CallR K (d + 1) 161 [.ref 80] (HW sc ar 82 oc rl ou tl, q) (some (.int (iI 1))) (HW sc ar 82 oc rl ou tl, q) := by
  apply CQ.x
  have ht1 := ht.1
  obtain ⟨hv1, hv2, hv3, hv4⟩ := id hv
  have hcr := tch_r ht a
  have hin : a < (tp.length : Int) → tch tp a = lat tp a ∧ 1 ≤ lat tp a ∧ lat tp a ≤ 255 := fun z => ⟨tch_in ⟨hr.1, z⟩, ht.2 a hr.1 z⟩
  have hou : ¬ a < (tp.length : Int) → tch tp a = 0 := fun z => tch_out (fun q => z q.2)
  refine CQ.of (own := 11) (n := 1) (ini := false) (rt := (some .boolean)) (cd := cd161) (by decide +kernel) rfl (by decide +kernel) rfl (Nat.le_of_ble_eq_true rfl) ?_
  refine RQ.seg 2 (pc' := 4) (L' := [some (.ref 80)]) (st' := [.int (iI (sc 8010))]) (g1 := (HW sc ar 82 oc rl ou tl, q)) rfl ?_
  refine RQ.to (L' := [some (.ref 80)]) (st' := [.int (iI a)]) rfl (by rw [show sc 8010 = a from ha]) ?_
  refine RQ.seg 2 (pc' := 8) (L' := [some (.ref 80)]) (st' := [.int (iI (sc 8009)), .int (iI a)]) (g1 := (HW sc ar 82 oc rl ou tl, q)) rfl ?_
  refine RQ.to (L' := [some (.ref 80)]) (st' := [.int (iI (tp.length : Int)), .int (iI a)]) rfl (by rw [show sc 8009 = (tp.length : Int) from hv3]) ?_
  refine RQ.if2 (a := a) (b := (tp.length : Int)) rfl rfl rfl rfl (by omega) (by omega) (fun (h1 : (tp.length : Int) ≤ a) => ?_) (fun (h1 : ¬ (tp.length : Int) ≤ a) => ?_)
  · skip
    have hi1 := hou (by omega)
    refine RQ.seg 1 (pc' := 54) (L' := [some (.ref 80)]) (st' := [.int (iI 0)]) (g1 := (HW sc ar 82 oc rl ou tl, q)) rfl ?_
    refine RQ.ret rfl rfl ?_
    first | exact ⟨rfl, rfl⟩ | (exfalso; omega)
  · skip
    obtain ⟨hi1, hi2⟩ := hin (by omega)
    have hsg := sgb_r hi2
    refine RQ.seg 4 (pc' := 19) (L' := [some (.ref 80)]) (st' := [.int (iI (sc 8008)), .ref 82]) (g1 := (HW sc ar 82 oc rl ou tl, q)) rfl ?_
    refine RQ.to (L' := [some (.ref 80)]) (st' := [.int (iI bg), .ref 82]) rfl (by rw [show sc 8008 = bg from hv2]) ?_
    refine RQ.seg 2 (pc' := 23) (L' := [some (.ref 80)]) (st' := [.int (iI (sc 8010)), .int (iI bg), .ref 82]) (g1 := (HW sc ar 82 oc rl ou tl, q)) rfl ?_
    refine RQ.to (L' := [some (.ref 80)]) (st' := [.int (iI a), .int (iI bg), .ref 82]) rfl (by rw [show sc 8010 = a from ha]) ?_
    refine RQ.seg 1 (pc' := 24) (L' := [some (.ref 80)]) (st' := [.int ((iI bg) + (iI a)), .ref 82]) (g1 := (HW sc ar 82 oc rl ou tl, q)) rfl ?_
    refine RQ.baldv (z := (bg + a)) (v := (sgb (lat tp a))) rfl (by simp only [iI_add, iI_sub, iI_mul, iI_neg]) rfl (by omega) (by decide) (hv4 a (by omega) (by omega)) ?_
    refine RQ.seg 1 (pc' := 27) (L' := [some (.ref 80)]) (st' := [.int (iI 48), .int (iI (sgb (lat tp a)))]) (g1 := (HW sc ar 82 oc rl ou tl, q)) rfl ?_
    refine RQ.if2 (a := (sgb (lat tp a))) (b := 48) rfl rfl rfl rfl (by omega) (by omega) (fun (h2 : sgb (lat tp a) < 48) => ?_) (fun (h2 : ¬ sgb (lat tp a) < 48) => ?_)
    · skip
      refine RQ.seg 1 (pc' := 54) (L' := [some (.ref 80)]) (st' := [.int (iI 0)]) (g1 := (HW sc ar 82 oc rl ou tl, q)) rfl ?_
      refine RQ.ret rfl rfl ?_
      first | exact ⟨rfl, rfl⟩ | (exfalso; omega)
    · skip
      refine RQ.seg 4 (pc' := 38) (L' := [some (.ref 80)]) (st' := [.int (iI (sc 8008)), .ref 82]) (g1 := (HW sc ar 82 oc rl ou tl, q)) rfl ?_
      refine RQ.to (L' := [some (.ref 80)]) (st' := [.int (iI bg), .ref 82]) rfl (by rw [show sc 8008 = bg from hv2]) ?_
      refine RQ.seg 2 (pc' := 42) (L' := [some (.ref 80)]) (st' := [.int (iI (sc 8010)), .int (iI bg), .ref 82]) (g1 := (HW sc ar 82 oc rl ou tl, q)) rfl ?_
      refine RQ.to (L' := [some (.ref 80)]) (st' := [.int (iI a), .int (iI bg), .ref 82]) rfl (by rw [show sc 8010 = a from ha]) ?_
      refine RQ.seg 1 (pc' := 43) (L' := [some (.ref 80)]) (st' := [.int ((iI bg) + (iI a)), .ref 82]) (g1 := (HW sc ar 82 oc rl ou tl, q)) rfl ?_
      refine RQ.baldv (z := (bg + a)) (v := (sgb (lat tp a))) rfl (by simp only [iI_add, iI_sub, iI_mul, iI_neg]) rfl (by omega) (by decide) (hv4 a (by omega) (by omega)) ?_
      refine RQ.seg 1 (pc' := 46) (L' := [some (.ref 80)]) (st' := [.int (iI 57), .int (iI (sgb (lat tp a)))]) (g1 := (HW sc ar 82 oc rl ou tl, q)) rfl ?_
      refine RQ.if2 (a := (sgb (lat tp a))) (b := 57) rfl rfl rfl rfl (by omega) (by omega) (fun (h3 : 57 < sgb (lat tp a)) => ?_) (fun (h3 : ¬ 57 < sgb (lat tp a)) => ?_)
      · skip
        refine RQ.seg 1 (pc' := 54) (L' := [some (.ref 80)]) (st' := [.int (iI 0)]) (g1 := (HW sc ar 82 oc rl ou tl, q)) rfl ?_
        refine RQ.ret rfl rfl ?_
        first | exact ⟨rfl, rfl⟩ | (exfalso; omega)
      · skip
        refine RQ.seg 2 (pc' := 54) (L' := [some (.ref 80)]) (st' := [.int (iI 1)]) (g1 := (HW sc ar 82 oc rl ou tl, q)) rfl ?_
        refine RQ.ret rfl rfl ?_
        first | exact ⟨rfl, rfl⟩ | (exfalso; omega)
theorem m_dig82f {K : PK} {d : Nat} {sc : Nat → Int} {ar : Nat → Int → Int} {oc : Nat} {rl : Nat → Option Nat} {ou : Nat → Int64} {tl : List PO} {q : Nat × Nat} {tp : List Int} {bg : Int} (ht : TpOK tp) (hv : TvM tp bg 640 (sc 8008) (sc 8009) (ar 82)) {a : Int} (ha : sc 8010 = a) (hr : 0 ≤ a ∧ a ≤ (tp.length : Int)) (hc : ¬ dig (tch tp a)) : CallR K (d + 1) 161 [.ref 80] (HW sc ar 82 oc rl ou tl, q) (some (.int (iI 0))) (HW sc ar 82 oc rl ou tl, q) := by
  apply CQ.x
  have ht1 := ht.1
  obtain ⟨hv1, hv2, hv3, hv4⟩ := id hv
  have hcr := tch_r ht a
  have hin : a < (tp.length : Int) → tch tp a = lat tp a ∧ 1 ≤ lat tp a ∧ lat tp a ≤ 255 := fun z => ⟨tch_in ⟨hr.1, z⟩, ht.2 a hr.1 z⟩
  have hou : ¬ a < (tp.length : Int) → tch tp a = 0 := fun z => tch_out (fun q => z q.2)
  refine CQ.of (own := 11) (n := 1) (ini := false) (rt := (some .boolean)) (cd := cd161) (by decide +kernel) rfl (by decide +kernel) rfl (Nat.le_of_ble_eq_true rfl) ?_
  refine RQ.seg 2 (pc' := 4) (L' := [some (.ref 80)]) (st' := [.int (iI (sc 8010))]) (g1 := (HW sc ar 82 oc rl ou tl, q)) rfl ?_
  refine RQ.to (L' := [some (.ref 80)]) (st' := [.int (iI a)]) rfl (by rw [show sc 8010 = a from ha]) ?_
  refine RQ.seg 2 (pc' := 8) (L' := [some (.ref 80)]) (st' := [.int (iI (sc 8009)), .int (iI a)]) (g1 := (HW sc ar 82 oc rl ou tl, q)) rfl ?_
  refine RQ.to (L' := [some (.ref 80)]) (st' := [.int (iI (tp.length : Int)), .int (iI a)]) rfl (by rw [show sc 8009 = (tp.length : Int) from hv3]) ?_
  refine RQ.if2 (a := a) (b := (tp.length : Int)) rfl rfl rfl rfl (by omega) (by omega) (fun (h1 : (tp.length : Int) ≤ a) => ?_) (fun (h1 : ¬ (tp.length : Int) ≤ a) => ?_)
  · skip
    have hi1 := hou (by omega)
    refine RQ.seg 1 (pc' := 54) (L' := [some (.ref 80)]) (st' := [.int (iI 0)]) (g1 := (HW sc ar 82 oc rl ou tl, q)) rfl ?_
    refine RQ.ret rfl rfl ?_
    first | exact ⟨rfl, rfl⟩ | (exfalso; omega)
  · skip
    obtain ⟨hi1, hi2⟩ := hin (by omega)
    have hsg := sgb_r hi2
    refine RQ.seg 4 (pc' := 19) (L' := [some (.ref 80)]) (st' := [.int (iI (sc 8008)), .ref 82]) (g1 := (HW sc ar 82 oc rl ou tl, q)) rfl ?_
    refine RQ.to (L' := [some (.ref 80)]) (st' := [.int (iI bg), .ref 82]) rfl (by rw [show sc 8008 = bg from hv2]) ?_
    refine RQ.seg 2 (pc' := 23) (L' := [some (.ref 80)]) (st' := [.int (iI (sc 8010)), .int (iI bg), .ref 82]) (g1 := (HW sc ar 82 oc rl ou tl, q)) rfl ?_
    refine RQ.to (L' := [some (.ref 80)]) (st' := [.int (iI a), .int (iI bg), .ref 82]) rfl (by rw [show sc 8010 = a from ha]) ?_
    refine RQ.seg 1 (pc' := 24) (L' := [some (.ref 80)]) (st' := [.int ((iI bg) + (iI a)), .ref 82]) (g1 := (HW sc ar 82 oc rl ou tl, q)) rfl ?_
    refine RQ.baldv (z := (bg + a)) (v := (sgb (lat tp a))) rfl (by simp only [iI_add, iI_sub, iI_mul, iI_neg]) rfl (by omega) (by decide) (hv4 a (by omega) (by omega)) ?_
    refine RQ.seg 1 (pc' := 27) (L' := [some (.ref 80)]) (st' := [.int (iI 48), .int (iI (sgb (lat tp a)))]) (g1 := (HW sc ar 82 oc rl ou tl, q)) rfl ?_
    refine RQ.if2 (a := (sgb (lat tp a))) (b := 48) rfl rfl rfl rfl (by omega) (by omega) (fun (h2 : sgb (lat tp a) < 48) => ?_) (fun (h2 : ¬ sgb (lat tp a) < 48) => ?_)
    · skip
      refine RQ.seg 1 (pc' := 54) (L' := [some (.ref 80)]) (st' := [.int (iI 0)]) (g1 := (HW sc ar 82 oc rl ou tl, q)) rfl ?_
      refine RQ.ret rfl rfl ?_
      first | exact ⟨rfl, rfl⟩ | (exfalso; omega)
    · skip
      refine RQ.seg 4 (pc' := 38) (L' := [some (.ref 80)]) (st' := [.int (iI (sc 8008)), .ref 82]) (g1 := (HW sc ar 82 oc rl ou tl, q)) rfl ?_
      refine RQ.to (L' := [some (.ref 80)]) (st' := [.int (iI bg), .ref 82]) rfl (by rw [show sc 8008 = bg from hv2]) ?_
      refine RQ.seg 2 (pc' := 42) (L' := [some (.ref 80)]) (st' := [.int (iI (sc 8010)), .int (iI bg), .ref 82]) (g1 := (HW sc ar 82 oc rl ou tl, q)) rfl ?_
      refine RQ.to (L' := [some (.ref 80)]) (st' := [.int (iI a), .int (iI bg), .ref 82]) rfl (by rw [show sc 8010 = a from ha]) ?_
      refine RQ.seg 1 (pc' := 43) (L' := [some (.ref 80)]) (st' := [.int ((iI bg) + (iI a)), .ref 82]) (g1 := (HW sc ar 82 oc rl ou tl, q)) rfl ?_
      refine RQ.baldv (z := (bg + a)) (v := (sgb (lat tp a))) rfl (by simp only [iI_add, iI_sub, iI_mul, iI_neg]) rfl (by omega) (by decide) (hv4 a (by omega) (by omega)) ?_
      refine RQ.seg 1 (pc' := 46) (L' := [some (.ref 80)]) (st' := [.int (iI 57), .int (iI (sgb (lat tp a)))]) (g1 := (HW sc ar 82 oc rl ou tl, q)) rfl ?_
      refine RQ.if2 (a := (sgb (lat tp a))) (b := 57) rfl rfl rfl rfl (by omega) (by omega) (fun (h3 : 57 < sgb (lat tp a)) => ?_) (fun (h3 : ¬ 57 < sgb (lat tp a)) => ?_)
      · skip
        refine RQ.seg 1 (pc' := 54) (L' := [some (.ref 80)]) (st' := [.int (iI 0)]) (g1 := (HW sc ar 82 oc rl ou tl, q)) rfl ?_
        refine RQ.ret rfl rfl ?_
        first | exact ⟨rfl, rfl⟩ | (exfalso; omega)
      · skip
        refine RQ.seg 2 (pc' := 54) (L' := [some (.ref 80)]) (st' := [.int (iI 1)]) (g1 := (HW sc ar 82 oc rl ou tl, q)) rfl ?_
        refine RQ.ret rfl rfl ?_
        first | exact ⟨rfl, rfl⟩ | (exfalso; omega)
theorem m_here82 {K : PK} {d : Nat} {sc : Nat → Int} {ar : Nat → Int → Int} {oc : Nat} {rl : Nat → Option Nat} {ou : Nat → Int64} {tl : List PO} {q : Nat × Nat} {tp : List Int} {bg : Int} (ht : TpOK tp) (hv : TvM tp bg 640 (sc 8008) (sc 8009) (ar 82)) {a : Int} (ha : sc 8010 = a) (hr : 0 ≤ a ∧ a ≤ (tp.length : Int)) : CallR K (d + 1) 174 [.ref 80] (HW sc ar 82 oc rl ou tl, q) (some (.int (iI (lkm (tch tp a))))) (HW sc ar 82 oc rl ou tl, q) := by
  apply CQ.x
  have ht1 := ht.1
  obtain ⟨hv1, hv2, hv3, hv4⟩ := id hv
  have hcr := tch_r ht a
  have hin : a < (tp.length : Int) → tch tp a = lat tp a ∧ 1 ≤ lat tp a ∧ lat tp a ≤ 255 := fun z => ⟨tch_in ⟨hr.1, z⟩, ht.2 a hr.1 z⟩
  have hou : ¬ a < (tp.length : Int) → tch tp a = 0 := fun z => tch_out (fun q => z q.2)
  refine CQ.of (own := 11) (n := 1) (ini := false) (rt := (some .int)) (cd := cd174) (by decide +kernel) rfl (by decide +kernel) rfl (Nat.le_of_ble_eq_true rfl) ?_
  refine RQ.seg 2 (pc' := 4) (L' := [some (.ref 80)]) (st' := [.int (iI (sc 8010))]) (g1 := (HW sc ar 82 oc rl ou tl, q)) rfl ?_
  refine RQ.to (L' := [some (.ref 80)]) (st' := [.int (iI a)]) rfl (by rw [show sc 8010 = a from ha]) ?_
  refine RQ.seg 2 (pc' := 8) (L' := [some (.ref 80)]) (st' := [.int (iI (sc 8009)), .int (iI a)]) (g1 := (HW sc ar 82 oc rl ou tl, q)) rfl ?_
  refine RQ.to (L' := [some (.ref 80)]) (st' := [.int (iI (tp.length : Int)), .int (iI a)]) rfl (by rw [show sc 8009 = (tp.length : Int) from hv3]) ?_
  refine RQ.if2 (a := a) (b := (tp.length : Int)) rfl rfl rfl rfl (by omega) (by omega) (fun (h1 : (tp.length : Int) ≤ a) => ?_) (fun (h1 : ¬ (tp.length : Int) ≤ a) => ?_)
  · skip
    have hi1 := hou (by omega)
    refine RQ.seg 1 (pc' := 33) (L' := [some (.ref 80)]) (st' := [.int (iI (-1))]) (g1 := (HW sc ar 82 oc rl ou tl, q)) rfl ?_
    refine RQ.ret rfl rfl ?_
    exact ⟨by rw [hi1]; rfl, rfl⟩
  · skip
    obtain ⟨hi1, hi2⟩ := hin (by omega)
    have hsg := sgb_r hi2
    refine RQ.seg 4 (pc' := 19) (L' := [some (.ref 80)]) (st' := [.int (iI (sc 8008)), .ref 82]) (g1 := (HW sc ar 82 oc rl ou tl, q)) rfl ?_
    refine RQ.to (L' := [some (.ref 80)]) (st' := [.int (iI bg), .ref 82]) rfl (by rw [show sc 8008 = bg from hv2]) ?_
    refine RQ.seg 2 (pc' := 23) (L' := [some (.ref 80)]) (st' := [.int (iI (sc 8010)), .int (iI bg), .ref 82]) (g1 := (HW sc ar 82 oc rl ou tl, q)) rfl ?_
    refine RQ.to (L' := [some (.ref 80)]) (st' := [.int (iI a), .int (iI bg), .ref 82]) rfl (by rw [show sc 8010 = a from ha]) ?_
    refine RQ.seg 1 (pc' := 24) (L' := [some (.ref 80)]) (st' := [.int ((iI bg) + (iI a)), .ref 82]) (g1 := (HW sc ar 82 oc rl ou tl, q)) rfl ?_
    refine RQ.baldv (z := (bg + a)) (v := (sgb (lat tp a))) rfl (by simp only [iI_add, iI_sub, iI_mul, iI_neg]) rfl (by omega) (by decide) (hv4 a (by omega) (by omega)) ?_
    refine RQ.seg 1 (pc' := 28) (L' := [some (.ref 80)]) (st' := [.int (iI 255), .int (iI (sgb (lat tp a)))]) (g1 := (HW sc ar 82 oc rl ou tl, q)) rfl ?_
    refine RQ.iandm 8 (a := (sgb (lat tp a))) (m := 255) (p := 256) rfl rfl rfl (by decide) (by decide) (by decide) ?_
    refine RQ.seg 1 (pc' := 33) (L' := [some (.ref 80)]) (st' := [.int (iI ((sgb (lat tp a)) % 256))]) (g1 := (HW sc ar 82 oc rl ou tl, q)) rfl ?_
    refine RQ.ret rfl rfl ?_
    exact ⟨by rw [hi1, lkm_n (by omega), sgb_m (by omega)], rfl⟩
theorem m_fails {K : PK} {d : Nat} {sc : Nat → Int} {ar : Nat → Int → Int} {tx oc : Nat} {rl : Nat → Option Nat} {ou : Nat → Int64} {tl : List PO} {q : Nat × Nat} (rw0 : -1 ≤ sc 8011 ∧ sc 8011 ≤ 200) : CallR K (d + 1) 158 [.ref 80] (HW sc ar tx oc rl ou tl, q) (some (.int (iI 0))) (HW (usc sc 8011 (if sc 8011 = -1 then sc 8010 else sc 8011)) ar tx oc rl ou tl, q) := by
  apply CQ.x
  refine CQ.of (own := 11) (n := 1) (ini := false) (rt := (some .boolean)) (cd := cd158) (by decide +kernel) rfl (by decide +kernel) rfl (Nat.le_of_ble_eq_true rfl) ?_
  refine RQ.seg 3 (pc' := 5) (L' := [some (.ref 80)]) (st' := [.int (iI (-1)), .int (iI (sc 8011))]) (g1 := (HW sc ar tx oc rl ou tl, q)) rfl ?_
  refine RQ.if2 (a := (sc 8011)) (b := (-1)) rfl rfl rfl rfl (by omega) (by omega) (fun (h1 : sc 8011 ≠ (-1)) => ?_) (fun (h1 : ¬ sc 8011 ≠ (-1)) => ?_)
  · skip
    refine RQ.seg 1 (pc' := 17) (L' := [some (.ref 80)]) (st' := [.int (iI 0)]) (g1 := (HW sc ar tx oc rl ou tl, q)) rfl ?_
    refine RQ.ret rfl rfl ?_
    exact ⟨rfl, by rw [if_neg (by omega)]; exact HW_e (usc_id sc 8011).symm rfl⟩
  · skip
    refine RQ.seg 5 (pc' := 17) (L' := [some (.ref 80)]) (st' := [.int (iI 0)]) (g1 := (HW (usc sc 8011 (sc 8010)) ar tx oc rl ou tl, q)) rfl ?_
    refine RQ.ret rfl rfl ?_
    exact ⟨rfl, by rw [if_pos (by omega)]⟩
theorem m_place_pw {K : PK} {d : Nat} {g : PG} {c : Int} (rc : -2147483648 ≤ c ∧ c < 2147483648) : CallR K (d + 5) 175 [.retAddr 22, .int (iI c)] g (some (.int (iI (pw c)))) g := by
  apply CQ.x
  refine CQ.of (own := 11) (n := 3) (ini := false) (rt := (some .int)) (cd := cd175) (by decide +kernel) rfl (by decide +kernel) rfl (Nat.le_of_ble_eq_true rfl) ?_
  refine RQ.seg 4 (pc' := 4) (L' := [some (.retAddr 22), some (.int (iI c)), some (.int (iI 0))]) (st' := [.retAddr 22, .int (iI 0)]) (g1 := g) rfl ?_
  refine RQ.call rfl rfl (rv := some (.int (iI 4))) (Or.inl ⟨rfl, Or.inl ⟨rfl, by omega, 2, by decide, rfl, rfl⟩⟩) ?_
  refine RQ.seg 3 (pc' := 12) (L' := [some (.retAddr 22), some (.int (iI c)), some (.int (iI 0))]) (st' := [.int (iI 0), .retAddr 22]) (g1 := g) rfl ?_
  refine RQ.call rfl rfl (rv := some (.int (iI 120))) (Or.inl ⟨rfl, Or.inr ⟨rfl, by omega, 2, 0, by decide, by decide, rfl, rfl⟩⟩) ?_
  refine RQ.seg 1 (pc' := 16) (L' := [some (.retAddr 22), some (.int (iI c)), some (.int (iI 0))]) (st' := [.int (iI c), .int (iI 120)]) (g1 := g) rfl ?_
  refine RQ.if2 (a := 120) (b := c) rfl rfl rfl rfl (by omega) (by omega) (fun (h1 : 120 ≠ c) => ?_) (fun (h1 : ¬ 120 ≠ c) => ?_)
  · skip
    refine RQ.seg 4 (pc' := 4) (L' := [some (.retAddr 22), some (.int (iI c)), some (.int (iI 1))]) (st' := [.retAddr 22, .int (iI 1)]) (g1 := g) rfl ?_
    refine RQ.call rfl rfl (rv := some (.int (iI 4))) (Or.inl ⟨rfl, Or.inl ⟨rfl, by omega, 2, by decide, rfl, rfl⟩⟩) ?_
    refine RQ.seg 3 (pc' := 12) (L' := [some (.retAddr 22), some (.int (iI c)), some (.int (iI 1))]) (st' := [.int (iI 1), .retAddr 22]) (g1 := g) rfl ?_
    refine RQ.call rfl rfl (rv := some (.int (iI 104))) (Or.inl ⟨rfl, Or.inr ⟨rfl, by omega, 2, 1, by decide, by decide, rfl, rfl⟩⟩) ?_
    refine RQ.seg 1 (pc' := 16) (L' := [some (.retAddr 22), some (.int (iI c)), some (.int (iI 1))]) (st' := [.int (iI c), .int (iI 104)]) (g1 := g) rfl ?_
    refine RQ.if2 (a := 104) (b := c) rfl rfl rfl rfl (by omega) (by omega) (fun (h2 : 104 ≠ c) => ?_) (fun (h2 : ¬ 104 ≠ c) => ?_)
    · skip
      refine RQ.seg 4 (pc' := 4) (L' := [some (.retAddr 22), some (.int (iI c)), some (.int (iI 2))]) (st' := [.retAddr 22, .int (iI 2)]) (g1 := g) rfl ?_
      refine RQ.call rfl rfl (rv := some (.int (iI 4))) (Or.inl ⟨rfl, Or.inl ⟨rfl, by omega, 2, by decide, rfl, rfl⟩⟩) ?_
      refine RQ.seg 3 (pc' := 12) (L' := [some (.retAddr 22), some (.int (iI c)), some (.int (iI 2))]) (st' := [.int (iI 2), .retAddr 22]) (g1 := g) rfl ?_
      refine RQ.call rfl rfl (rv := some (.int (iI 99))) (Or.inl ⟨rfl, Or.inr ⟨rfl, by omega, 2, 2, by decide, by decide, rfl, rfl⟩⟩) ?_
      refine RQ.seg 1 (pc' := 16) (L' := [some (.retAddr 22), some (.int (iI c)), some (.int (iI 2))]) (st' := [.int (iI c), .int (iI 99)]) (g1 := g) rfl ?_
      refine RQ.if2 (a := 99) (b := c) rfl rfl rfl rfl (by omega) (by omega) (fun (h3 : 99 ≠ c) => ?_) (fun (h3 : ¬ 99 ≠ c) => ?_)
      · skip
        refine RQ.seg 4 (pc' := 4) (L' := [some (.retAddr 22), some (.int (iI c)), some (.int (iI 3))]) (st' := [.retAddr 22, .int (iI 3)]) (g1 := g) rfl ?_
        refine RQ.call rfl rfl (rv := some (.int (iI 4))) (Or.inl ⟨rfl, Or.inl ⟨rfl, by omega, 2, by decide, rfl, rfl⟩⟩) ?_
        refine RQ.seg 3 (pc' := 12) (L' := [some (.retAddr 22), some (.int (iI c)), some (.int (iI 3))]) (st' := [.int (iI 3), .retAddr 22]) (g1 := g) rfl ?_
        refine RQ.call rfl rfl (rv := some (.int (iI 102))) (Or.inl ⟨rfl, Or.inr ⟨rfl, by omega, 2, 3, by decide, by decide, rfl, rfl⟩⟩) ?_
        refine RQ.seg 1 (pc' := 16) (L' := [some (.retAddr 22), some (.int (iI c)), some (.int (iI 3))]) (st' := [.int (iI c), .int (iI 102)]) (g1 := g) rfl ?_
        refine RQ.if2 (a := 102) (b := c) rfl rfl rfl rfl (by omega) (by omega) (fun (h4 : 102 ≠ c) => ?_) (fun (h4 : ¬ 102 ≠ c) => ?_)
        · skip
          refine RQ.seg 4 (pc' := 4) (L' := [some (.retAddr 22), some (.int (iI c)), some (.int (iI 4))]) (st' := [.retAddr 22, .int (iI 4)]) (g1 := g) rfl ?_
          refine RQ.call rfl rfl (rv := some (.int (iI 4))) (Or.inl ⟨rfl, Or.inl ⟨rfl, by omega, 2, by decide, rfl, rfl⟩⟩) ?_
          refine RQ.seg 2 (pc' := 28) (L' := [some (.retAddr 22), some (.int (iI c)), some (.int (iI 4))]) (st' := [.int (iI (-1))]) (g1 := g) rfl ?_
          refine RQ.ret rfl rfl ?_
          first | (exfalso; omega) | (refine ⟨?_, rfl⟩; congr 3; unfold pw; (repeat (first | rw [if_pos (by omega)] | rw [if_neg (by omega)])); done)
        · skip
          refine RQ.seg 1 (pc' := 20) (L' := [some (.retAddr 22), some (.int (iI c)), some (.int (iI 3))]) (st' := [.int (iI 3)]) (g1 := g) rfl ?_
          refine RQ.ret rfl rfl ?_
          first | (exfalso; omega) | (refine ⟨?_, rfl⟩; congr 3; unfold pw; (repeat (first | rw [if_pos (by omega)] | rw [if_neg (by omega)])); done)
      · skip
        refine RQ.seg 1 (pc' := 20) (L' := [some (.retAddr 22), some (.int (iI c)), some (.int (iI 2))]) (st' := [.int (iI 2)]) (g1 := g) rfl ?_
        refine RQ.ret rfl rfl ?_
        first | (exfalso; omega) | (refine ⟨?_, rfl⟩; congr 3; unfold pw; (repeat (first | rw [if_pos (by omega)] | rw [if_neg (by omega)])); done)
    · skip
      refine RQ.seg 1 (pc' := 20) (L' := [some (.retAddr 22), some (.int (iI c)), some (.int (iI 1))]) (st' := [.int (iI 1)]) (g1 := g) rfl ?_
      refine RQ.ret rfl rfl ?_
      first | (exfalso; omega) | (refine ⟨?_, rfl⟩; congr 3; unfold pw; (repeat (first | rw [if_pos (by omega)] | rw [if_neg (by omega)])); done)
  · skip
    refine RQ.seg 1 (pc' := 20) (L' := [some (.retAddr 22), some (.int (iI c)), some (.int (iI 0))]) (st' := [.int (iI 0)]) (g1 := g) rfl ?_
    refine RQ.ret rfl rfl ?_
    first | (exfalso; omega) | (refine ⟨?_, rfl⟩; congr 3; unfold pw; (repeat (first | rw [if_pos (by omega)] | rw [if_neg (by omega)])); done)
theorem m_place_pb {K : PK} {d : Nat} {g : PG} {c : Int} (rc : -2147483648 ≤ c ∧ c < 2147483648) : CallR K (d + 5) 175 [.retAddr 23, .int (iI c)] g (some (.int (iI (pb c)))) g := by
  apply CQ.x
  refine CQ.of (own := 11) (n := 3) (ini := false) (rt := (some .int)) (cd := cd175) (by decide +kernel) rfl (by decide +kernel) rfl (Nat.le_of_ble_eq_true rfl) ?_
  refine RQ.seg 4 (pc' := 4) (L' := [some (.retAddr 23), some (.int (iI c)), some (.int (iI 0))]) (st' := [.retAddr 23, .int (iI 0)]) (g1 := g) rfl ?_
  refine RQ.call rfl rfl (rv := some (.int (iI 3))) (Or.inl ⟨rfl, Or.inl ⟨rfl, by omega, 3, by decide, rfl, rfl⟩⟩) ?_
  refine RQ.seg 3 (pc' := 12) (L' := [some (.retAddr 23), some (.int (iI c)), some (.int (iI 0))]) (st' := [.int (iI 0), .retAddr 23]) (g1 := g) rfl ?_
  refine RQ.call rfl rfl (rv := some (.int (iI 97))) (Or.inl ⟨rfl, Or.inr ⟨rfl, by omega, 3, 0, by decide, by decide, rfl, rfl⟩⟩) ?_
  refine RQ.seg 1 (pc' := 16) (L' := [some (.retAddr 23), some (.int (iI c)), some (.int (iI 0))]) (st' := [.int (iI c), .int (iI 97)]) (g1 := g) rfl ?_
  refine RQ.if2 (a := 97) (b := c) rfl rfl rfl rfl (by omega) (by omega) (fun (h1 : 97 ≠ c) => ?_) (fun (h1 : ¬ 97 ≠ c) => ?_)
  · skip
    refine RQ.seg 4 (pc' := 4) (L' := [some (.retAddr 23), some (.int (iI c)), some (.int (iI 1))]) (st' := [.retAddr 23, .int (iI 1)]) (g1 := g) rfl ?_
    refine RQ.call rfl rfl (rv := some (.int (iI 3))) (Or.inl ⟨rfl, Or.inl ⟨rfl, by omega, 3, by decide, rfl, rfl⟩⟩) ?_
    refine RQ.seg 3 (pc' := 12) (L' := [some (.retAddr 23), some (.int (iI c)), some (.int (iI 1))]) (st' := [.int (iI 1), .retAddr 23]) (g1 := g) rfl ?_
    refine RQ.call rfl rfl (rv := some (.int (iI 110))) (Or.inl ⟨rfl, Or.inr ⟨rfl, by omega, 3, 1, by decide, by decide, rfl, rfl⟩⟩) ?_
    refine RQ.seg 1 (pc' := 16) (L' := [some (.retAddr 23), some (.int (iI c)), some (.int (iI 1))]) (st' := [.int (iI c), .int (iI 110)]) (g1 := g) rfl ?_
    refine RQ.if2 (a := 110) (b := c) rfl rfl rfl rfl (by omega) (by omega) (fun (h2 : 110 ≠ c) => ?_) (fun (h2 : ¬ 110 ≠ c) => ?_)
    · skip
      refine RQ.seg 4 (pc' := 4) (L' := [some (.retAddr 23), some (.int (iI c)), some (.int (iI 2))]) (st' := [.retAddr 23, .int (iI 2)]) (g1 := g) rfl ?_
      refine RQ.call rfl rfl (rv := some (.int (iI 3))) (Or.inl ⟨rfl, Or.inl ⟨rfl, by omega, 3, by decide, rfl, rfl⟩⟩) ?_
      refine RQ.seg 3 (pc' := 12) (L' := [some (.retAddr 23), some (.int (iI c)), some (.int (iI 2))]) (st' := [.int (iI 2), .retAddr 23]) (g1 := g) rfl ?_
      refine RQ.call rfl rfl (rv := some (.int (iI 112))) (Or.inl ⟨rfl, Or.inr ⟨rfl, by omega, 3, 2, by decide, by decide, rfl, rfl⟩⟩) ?_
      refine RQ.seg 1 (pc' := 16) (L' := [some (.retAddr 23), some (.int (iI c)), some (.int (iI 2))]) (st' := [.int (iI c), .int (iI 112)]) (g1 := g) rfl ?_
      refine RQ.if2 (a := 112) (b := c) rfl rfl rfl rfl (by omega) (by omega) (fun (h3 : 112 ≠ c) => ?_) (fun (h3 : ¬ 112 ≠ c) => ?_)
      · skip
        refine RQ.seg 4 (pc' := 4) (L' := [some (.retAddr 23), some (.int (iI c)), some (.int (iI 3))]) (st' := [.retAddr 23, .int (iI 3)]) (g1 := g) rfl ?_
        refine RQ.call rfl rfl (rv := some (.int (iI 3))) (Or.inl ⟨rfl, Or.inl ⟨rfl, by omega, 3, by decide, rfl, rfl⟩⟩) ?_
        refine RQ.seg 2 (pc' := 28) (L' := [some (.retAddr 23), some (.int (iI c)), some (.int (iI 3))]) (st' := [.int (iI (-1))]) (g1 := g) rfl ?_
        refine RQ.ret rfl rfl ?_
        first | (exfalso; omega) | (refine ⟨?_, rfl⟩; congr 3; unfold pb; (repeat (first | rw [if_pos (by omega)] | rw [if_neg (by omega)])); done)
      · skip
        refine RQ.seg 1 (pc' := 20) (L' := [some (.retAddr 23), some (.int (iI c)), some (.int (iI 2))]) (st' := [.int (iI 2)]) (g1 := g) rfl ?_
        refine RQ.ret rfl rfl ?_
        first | (exfalso; omega) | (refine ⟨?_, rfl⟩; congr 3; unfold pb; (repeat (first | rw [if_pos (by omega)] | rw [if_neg (by omega)])); done)
    · skip
      refine RQ.seg 1 (pc' := 20) (L' := [some (.retAddr 23), some (.int (iI c)), some (.int (iI 1))]) (st' := [.int (iI 1)]) (g1 := g) rfl ?_
      refine RQ.ret rfl rfl ?_
      first | (exfalso; omega) | (refine ⟨?_, rfl⟩; congr 3; unfold pb; (repeat (first | rw [if_pos (by omega)] | rw [if_neg (by omega)])); done)
  · skip
    refine RQ.seg 1 (pc' := 20) (L' := [some (.retAddr 23), some (.int (iI c)), some (.int (iI 0))]) (st' := [.int (iI 0)]) (g1 := g) rfl ?_
    refine RQ.ret rfl rfl ?_
    first | (exfalso; omega) | (refine ⟨?_, rfl⟩; congr 3; unfold pb; (repeat (first | rw [if_pos (by omega)] | rw [if_neg (by omega)])); done)
theorem m_place_pl {K : PK} {d : Nat} {g : PG} {c : Int} (rc : -2147483648 ≤ c ∧ c < 2147483648) : CallR K (d + 5) 175 [.retAddr 24, .int (iI c)] g (some (.int (iI (pl c)))) g := by
  apply CQ.x
  refine CQ.of (own := 11) (n := 3) (ini := false) (rt := (some .int)) (cd := cd175) (by decide +kernel) rfl (by decide +kernel) rfl (Nat.le_of_ble_eq_true rfl) ?_
  refine RQ.seg 4 (pc' := 4) (L' := [some (.retAddr 24), some (.int (iI c)), some (.int (iI 0))]) (st' := [.retAddr 24, .int (iI 0)]) (g1 := g) rfl ?_
  refine RQ.call rfl rfl (rv := some (.int (iI 4))) (Or.inl ⟨rfl, Or.inl ⟨rfl, by omega, 4, by decide, rfl, rfl⟩⟩) ?_
  refine RQ.seg 3 (pc' := 12) (L' := [some (.retAddr 24), some (.int (iI c)), some (.int (iI 0))]) (st' := [.int (iI 0), .retAddr 24]) (g1 := g) rfl ?_
  refine RQ.call rfl rfl (rv := some (.int (iI 112))) (Or.inl ⟨rfl, Or.inr ⟨rfl, by omega, 4, 0, by decide, by decide, rfl, rfl⟩⟩) ?_
  refine RQ.seg 1 (pc' := 16) (L' := [some (.retAddr 24), some (.int (iI c)), some (.int (iI 0))]) (st' := [.int (iI c), .int (iI 112)]) (g1 := g) rfl ?_
  refine RQ.if2 (a := 112) (b := c) rfl rfl rfl rfl (by omega) (by omega) (fun (h1 : 112 ≠ c) => ?_) (fun (h1 : ¬ 112 ≠ c) => ?_)
  · skip
    refine RQ.seg 4 (pc' := 4) (L' := [some (.retAddr 24), some (.int (iI c)), some (.int (iI 1))]) (st' := [.retAddr 24, .int (iI 1)]) (g1 := g) rfl ?_
    refine RQ.call rfl rfl (rv := some (.int (iI 4))) (Or.inl ⟨rfl, Or.inl ⟨rfl, by omega, 4, by decide, rfl, rfl⟩⟩) ?_
    refine RQ.seg 3 (pc' := 12) (L' := [some (.retAddr 24), some (.int (iI c)), some (.int (iI 1))]) (st' := [.int (iI 1), .retAddr 24]) (g1 := g) rfl ?_
    refine RQ.call rfl rfl (rv := some (.int (iI 115))) (Or.inl ⟨rfl, Or.inr ⟨rfl, by omega, 4, 1, by decide, by decide, rfl, rfl⟩⟩) ?_
    refine RQ.seg 1 (pc' := 16) (L' := [some (.retAddr 24), some (.int (iI c)), some (.int (iI 1))]) (st' := [.int (iI c), .int (iI 115)]) (g1 := g) rfl ?_
    refine RQ.if2 (a := 115) (b := c) rfl rfl rfl rfl (by omega) (by omega) (fun (h2 : 115 ≠ c) => ?_) (fun (h2 : ¬ 115 ≠ c) => ?_)
    · skip
      refine RQ.seg 4 (pc' := 4) (L' := [some (.retAddr 24), some (.int (iI c)), some (.int (iI 2))]) (st' := [.retAddr 24, .int (iI 2)]) (g1 := g) rfl ?_
      refine RQ.call rfl rfl (rv := some (.int (iI 4))) (Or.inl ⟨rfl, Or.inl ⟨rfl, by omega, 4, by decide, rfl, rfl⟩⟩) ?_
      refine RQ.seg 3 (pc' := 12) (L' := [some (.retAddr 24), some (.int (iI c)), some (.int (iI 2))]) (st' := [.int (iI 2), .retAddr 24]) (g1 := g) rfl ?_
      refine RQ.call rfl rfl (rv := some (.int (iI 107))) (Or.inl ⟨rfl, Or.inr ⟨rfl, by omega, 4, 2, by decide, by decide, rfl, rfl⟩⟩) ?_
      refine RQ.seg 1 (pc' := 16) (L' := [some (.retAddr 24), some (.int (iI c)), some (.int (iI 2))]) (st' := [.int (iI c), .int (iI 107)]) (g1 := g) rfl ?_
      refine RQ.if2 (a := 107) (b := c) rfl rfl rfl rfl (by omega) (by omega) (fun (h3 : 107 ≠ c) => ?_) (fun (h3 : ¬ 107 ≠ c) => ?_)
      · skip
        refine RQ.seg 4 (pc' := 4) (L' := [some (.retAddr 24), some (.int (iI c)), some (.int (iI 3))]) (st' := [.retAddr 24, .int (iI 3)]) (g1 := g) rfl ?_
        refine RQ.call rfl rfl (rv := some (.int (iI 4))) (Or.inl ⟨rfl, Or.inl ⟨rfl, by omega, 4, by decide, rfl, rfl⟩⟩) ?_
        refine RQ.seg 3 (pc' := 12) (L' := [some (.retAddr 24), some (.int (iI c)), some (.int (iI 3))]) (st' := [.int (iI 3), .retAddr 24]) (g1 := g) rfl ?_
        refine RQ.call rfl rfl (rv := some (.int (iI 113))) (Or.inl ⟨rfl, Or.inr ⟨rfl, by omega, 4, 3, by decide, by decide, rfl, rfl⟩⟩) ?_
        refine RQ.seg 1 (pc' := 16) (L' := [some (.retAddr 24), some (.int (iI c)), some (.int (iI 3))]) (st' := [.int (iI c), .int (iI 113)]) (g1 := g) rfl ?_
        refine RQ.if2 (a := 113) (b := c) rfl rfl rfl rfl (by omega) (by omega) (fun (h4 : 113 ≠ c) => ?_) (fun (h4 : ¬ 113 ≠ c) => ?_)
        · skip
          refine RQ.seg 4 (pc' := 4) (L' := [some (.retAddr 24), some (.int (iI c)), some (.int (iI 4))]) (st' := [.retAddr 24, .int (iI 4)]) (g1 := g) rfl ?_
          refine RQ.call rfl rfl (rv := some (.int (iI 4))) (Or.inl ⟨rfl, Or.inl ⟨rfl, by omega, 4, by decide, rfl, rfl⟩⟩) ?_
          refine RQ.seg 2 (pc' := 28) (L' := [some (.retAddr 24), some (.int (iI c)), some (.int (iI 4))]) (st' := [.int (iI (-1))]) (g1 := g) rfl ?_
          refine RQ.ret rfl rfl ?_
          first | (exfalso; omega) | (refine ⟨?_, rfl⟩; congr 3; unfold pl; (repeat (first | rw [if_pos (by omega)] | rw [if_neg (by omega)])); done)
        · skip
          refine RQ.seg 1 (pc' := 20) (L' := [some (.retAddr 24), some (.int (iI c)), some (.int (iI 3))]) (st' := [.int (iI 3)]) (g1 := g) rfl ?_
          refine RQ.ret rfl rfl ?_
          first | (exfalso; omega) | (refine ⟨?_, rfl⟩; congr 3; unfold pl; (repeat (first | rw [if_pos (by omega)] | rw [if_neg (by omega)])); done)
      · skip
        refine RQ.seg 1 (pc' := 20) (L' := [some (.retAddr 24), some (.int (iI c)), some (.int (iI 2))]) (st' := [.int (iI 2)]) (g1 := g) rfl ?_
        refine RQ.ret rfl rfl ?_
        first | (exfalso; omega) | (refine ⟨?_, rfl⟩; congr 3; unfold pl; (repeat (first | rw [if_pos (by omega)] | rw [if_neg (by omega)])); done)
    · skip
      refine RQ.seg 1 (pc' := 20) (L' := [some (.retAddr 24), some (.int (iI c)), some (.int (iI 1))]) (st' := [.int (iI 1)]) (g1 := g) rfl ?_
      refine RQ.ret rfl rfl ?_
      first | (exfalso; omega) | (refine ⟨?_, rfl⟩; congr 3; unfold pl; (repeat (first | rw [if_pos (by omega)] | rw [if_neg (by omega)])); done)
  · skip
    refine RQ.seg 1 (pc' := 20) (L' := [some (.retAddr 24), some (.int (iI c)), some (.int (iI 0))]) (st' := [.int (iI 0)]) (g1 := g) rfl ?_
    refine RQ.ret rfl rfl ?_
    first | (exfalso; omega) | (refine ⟨?_, rfl⟩; congr 3; unfold pl; (repeat (first | rw [if_pos (by omega)] | rw [if_neg (by omega)])); done)
theorem m_among_yt {K : PK} {d : Nat} {g : PG} {c : Int} (rc : -2147483648 ≤ c ∧ c < 2147483648) (hc : (c = 121)) : CallR K (d + 5) 152 [.retAddr 20, .int (iI c)] g (some (.int (iI 1))) g := by
  apply CQ.x
  refine CQ.of (own := 11) (n := 3) (ini := false) (rt := (some .boolean)) (cd := cd152) (by decide +kernel) rfl (by decide +kernel) rfl (Nat.le_of_ble_eq_true rfl) ?_
  refine RQ.seg 4 (pc' := 4) (L' := [some (.retAddr 20), some (.int (iI c)), some (.int (iI 0))]) (st' := [.retAddr 20, .int (iI 0)]) (g1 := g) rfl ?_
  refine RQ.call rfl rfl (rv := some (.int (iI 1))) (Or.inl ⟨rfl, Or.inl ⟨rfl, by omega, 0, by decide, rfl, rfl⟩⟩) ?_
  refine RQ.seg 3 (pc' := 12) (L' := [some (.retAddr 20), some (.int (iI c)), some (.int (iI 0))]) (st' := [.int (iI 0), .retAddr 20]) (g1 := g) rfl ?_
  refine RQ.call rfl rfl (rv := some (.int (iI 121))) (Or.inl ⟨rfl, Or.inr ⟨rfl, by omega, 0, 0, by decide, by decide, rfl, rfl⟩⟩) ?_
  refine RQ.seg 1 (pc' := 16) (L' := [some (.retAddr 20), some (.int (iI c)), some (.int (iI 0))]) (st' := [.int (iI c), .int (iI 121)]) (g1 := g) rfl ?_
  refine RQ.if2 (a := 121) (b := c) rfl rfl rfl rfl (by omega) (by omega) (fun (h1 : 121 ≠ c) => ?_) (fun (h1 : ¬ 121 ≠ c) => ?_)
  · skip
    refine RQ.seg 4 (pc' := 4) (L' := [some (.retAddr 20), some (.int (iI c)), some (.int (iI 1))]) (st' := [.retAddr 20, .int (iI 1)]) (g1 := g) rfl ?_
    refine RQ.call rfl rfl (rv := some (.int (iI 1))) (Or.inl ⟨rfl, Or.inl ⟨rfl, by omega, 0, by decide, rfl, rfl⟩⟩) ?_
    refine RQ.seg 2 (pc' := 28) (L' := [some (.retAddr 20), some (.int (iI c)), some (.int (iI 1))]) (st' := [.int (iI 0)]) (g1 := g) rfl ?_
    refine RQ.ret rfl rfl ?_
    first | exact ⟨rfl, rfl⟩ | (exfalso; omega)
  · skip
    refine RQ.seg 1 (pc' := 20) (L' := [some (.retAddr 20), some (.int (iI c)), some (.int (iI 0))]) (st' := [.int (iI 1)]) (g1 := g) rfl ?_
    refine RQ.ret rfl rfl ?_
    first | exact ⟨rfl, rfl⟩ | (exfalso; omega)
theorem m_among_yf {K : PK} {d : Nat} {g : PG} {c : Int} (rc : -2147483648 ≤ c ∧ c < 2147483648) (hc : ¬ (c = 121)) : CallR K (d + 5) 152 [.retAddr 20, .int (iI c)] g (some (.int (iI 0))) g := by
  apply CQ.x
  refine CQ.of (own := 11) (n := 3) (ini := false) (rt := (some .boolean)) (cd := cd152) (by decide +kernel) rfl (by decide +kernel) rfl (Nat.le_of_ble_eq_true rfl) ?_
  refine RQ.seg 4 (pc' := 4) (L' := [some (.retAddr 20), some (.int (iI c)), some (.int (iI 0))]) (st' := [.retAddr 20, .int (iI 0)]) (g1 := g) rfl ?_
  refine RQ.call rfl rfl (rv := some (.int (iI 1))) (Or.inl ⟨rfl, Or.inl ⟨rfl, by omega, 0, by decide, rfl, rfl⟩⟩) ?_
  refine RQ.seg 3 (pc' := 12) (L' := [some (.retAddr 20), some (.int (iI c)), some (.int (iI 0))]) (st' := [.int (iI 0), .retAddr 20]) (g1 := g) rfl ?_
  refine RQ.call rfl rfl (rv := some (.int (iI 121))) (Or.inl ⟨rfl, Or.inr ⟨rfl, by omega, 0, 0, by decide, by decide, rfl, rfl⟩⟩) ?_
  refine RQ.seg 1 (pc' := 16) (L' := [some (.retAddr 20), some (.int (iI c)), some (.int (iI 0))]) (st' := [.int (iI c), .int (iI 121)]) (g1 := g) rfl ?_
  refine RQ.if2 (a := 121) (b := c) rfl rfl rfl rfl (by omega) (by omega) (fun (h1 : 121 ≠ c) => ?_) (fun (h1 : ¬ 121 ≠ c) => ?_)
  · skip
    refine RQ.seg 4 (pc' := 4) (L' := [some (.retAddr 20), some (.int (iI c)), some (.int (iI 1))]) (st' := [.retAddr 20, .int (iI 1)]) (g1 := g) rfl ?_
    refine RQ.call rfl rfl (rv := some (.int (iI 1))) (Or.inl ⟨rfl, Or.inl ⟨rfl, by omega, 0, by decide, rfl, rfl⟩⟩) ?_
    refine RQ.seg 2 (pc' := 28) (L' := [some (.retAddr 20), some (.int (iI c)), some (.int (iI 1))]) (st' := [.int (iI 0)]) (g1 := g) rfl ?_
    refine RQ.ret rfl rfl ?_
    first | exact ⟨rfl, rfl⟩ | (exfalso; omega)
  · skip
    refine RQ.seg 1 (pc' := 20) (L' := [some (.retAddr 20), some (.int (iI c)), some (.int (iI 0))]) (st' := [.int (iI 1)]) (g1 := g) rfl ?_
    refine RQ.ret rfl rfl ?_
    first | exact ⟨rfl, rfl⟩ | (exfalso; omega)
theorem m_among_rt {K : PK} {d : Nat} {g : PG} {c : Int} (rc : -2147483648 ≤ c ∧ c < 2147483648) (hc : (pr c ≠ -1)) : CallR K (d + 5) 152 [.retAddr 21, .int (iI c)] g (some (.int (iI 1))) g := by
  apply CQ.x
  have hp : pr c ≠ -1 ↔ (c = 100 ∨ c = 104 ∨ c = 99 ∨ c = 102 ∨ c = 111 ∨ c = 107) := by unfold pr; (repeat (split <;> (try omega)))
  refine CQ.of (own := 11) (n := 3) (ini := false) (rt := (some .boolean)) (cd := cd152) (by decide +kernel) rfl (by decide +kernel) rfl (Nat.le_of_ble_eq_true rfl) ?_
  refine RQ.seg 4 (pc' := 4) (L' := [some (.retAddr 21), some (.int (iI c)), some (.int (iI 0))]) (st' := [.retAddr 21, .int (iI 0)]) (g1 := g) rfl ?_
  refine RQ.call rfl rfl (rv := some (.int (iI 6))) (Or.inl ⟨rfl, Or.inl ⟨rfl, by omega, 1, by decide, rfl, rfl⟩⟩) ?_
  refine RQ.seg 3 (pc' := 12) (L' := [some (.retAddr 21), some (.int (iI c)), some (.int (iI 0))]) (st' := [.int (iI 0), .retAddr 21]) (g1 := g) rfl ?_
  refine RQ.call rfl rfl (rv := some (.int (iI 100))) (Or.inl ⟨rfl, Or.inr ⟨rfl, by omega, 1, 0, by decide, by decide, rfl, rfl⟩⟩) ?_
  refine RQ.seg 1 (pc' := 16) (L' := [some (.retAddr 21), some (.int (iI c)), some (.int (iI 0))]) (st' := [.int (iI c), .int (iI 100)]) (g1 := g) rfl ?_
  refine RQ.if2 (a := 100) (b := c) rfl rfl rfl rfl (by omega) (by omega) (fun (h1 : 100 ≠ c) => ?_) (fun (h1 : ¬ 100 ≠ c) => ?_)
  · skip
    refine RQ.seg 4 (pc' := 4) (L' := [some (.retAddr 21), some (.int (iI c)), some (.int (iI 1))]) (st' := [.retAddr 21, .int (iI 1)]) (g1 := g) rfl ?_
    refine RQ.call rfl rfl (rv := some (.int (iI 6))) (Or.inl ⟨rfl, Or.inl ⟨rfl, by omega, 1, by decide, rfl, rfl⟩⟩) ?_
    refine RQ.seg 3 (pc' := 12) (L' := [some (.retAddr 21), some (.int (iI c)), some (.int (iI 1))]) (st' := [.int (iI 1), .retAddr 21]) (g1 := g) rfl ?_
    refine RQ.call rfl rfl (rv := some (.int (iI 104))) (Or.inl ⟨rfl, Or.inr ⟨rfl, by omega, 1, 1, by decide, by decide, rfl, rfl⟩⟩) ?_
    refine RQ.seg 1 (pc' := 16) (L' := [some (.retAddr 21), some (.int (iI c)), some (.int (iI 1))]) (st' := [.int (iI c), .int (iI 104)]) (g1 := g) rfl ?_
    refine RQ.if2 (a := 104) (b := c) rfl rfl rfl rfl (by omega) (by omega) (fun (h2 : 104 ≠ c) => ?_) (fun (h2 : ¬ 104 ≠ c) => ?_)
    · skip
      refine RQ.seg 4 (pc' := 4) (L' := [some (.retAddr 21), some (.int (iI c)), some (.int (iI 2))]) (st' := [.retAddr 21, .int (iI 2)]) (g1 := g) rfl ?_
      refine RQ.call rfl rfl (rv := some (.int (iI 6))) (Or.inl ⟨rfl, Or.inl ⟨rfl, by omega, 1, by decide, rfl, rfl⟩⟩) ?_
      refine RQ.seg 3 (pc' := 12) (L' := [some (.retAddr 21), some (.int (iI c)), some (.int (iI 2))]) (st' := [.int (iI 2), .retAddr 21]) (g1 := g) rfl ?_
      refine RQ.call rfl rfl (rv := some (.int (iI 99))) (Or.inl ⟨rfl, Or.inr ⟨rfl, by omega, 1, 2, by decide, by decide, rfl, rfl⟩⟩) ?_
      refine RQ.seg 1 (pc' := 16) (L' := [some (.retAddr 21), some (.int (iI c)), some (.int (iI 2))]) (st' := [.int (iI c), .int (iI 99)]) (g1 := g) rfl ?_
      refine RQ.if2 (a := 99) (b := c) rfl rfl rfl rfl (by omega) (by omega) (fun (h3 : 99 ≠ c) => ?_) (fun (h3 : ¬ 99 ≠ c) => ?_)
      · skip
        refine RQ.seg 4 (pc' := 4) (L' := [some (.retAddr 21), some (.int (iI c)), some (.int (iI 3))]) (st' := [.retAddr 21, .int (iI 3)]) (g1 := g) rfl ?_
        refine RQ.call rfl rfl (rv := some (.int (iI 6))) (Or.inl ⟨rfl, Or.inl ⟨rfl, by omega, 1, by decide, rfl, rfl⟩⟩) ?_
        refine RQ.seg 3 (pc' := 12) (L' := [some (.retAddr 21), some (.int (iI c)), some (.int (iI 3))]) (st' := [.int (iI 3), .retAddr 21]) (g1 := g) rfl ?_
        refine RQ.call rfl rfl (rv := some (.int (iI 102))) (Or.inl ⟨rfl, Or.inr ⟨rfl, by omega, 1, 3, by decide, by decide, rfl, rfl⟩⟩) ?_
        refine RQ.seg 1 (pc' := 16) (L' := [some (.retAddr 21), some (.int (iI c)), some (.int (iI 3))]) (st' := [.int (iI c), .int (iI 102)]) (g1 := g) rfl ?_
        refine RQ.if2 (a := 102) (b := c) rfl rfl rfl rfl (by omega) (by omega) (fun (h4 : 102 ≠ c) => ?_) (fun (h4 : ¬ 102 ≠ c) => ?_)
        · skip
          refine RQ.seg 4 (pc' := 4) (L' := [some (.retAddr 21), some (.int (iI c)), some (.int (iI 4))]) (st' := [.retAddr 21, .int (iI 4)]) (g1 := g) rfl ?_
          refine RQ.call rfl rfl (rv := some (.int (iI 6))) (Or.inl ⟨rfl, Or.inl ⟨rfl, by omega, 1, by decide, rfl, rfl⟩⟩) ?_
          refine RQ.seg 3 (pc' := 12) (L' := [some (.retAddr 21), some (.int (iI c)), some (.int (iI 4))]) (st' := [.int (iI 4), .retAddr 21]) (g1 := g) rfl ?_
          refine RQ.call rfl rfl (rv := some (.int (iI 111))) (Or.inl ⟨rfl, Or.inr ⟨rfl, by omega, 1, 4, by decide, by decide, rfl, rfl⟩⟩) ?_
          refine RQ.seg 1 (pc' := 16) (L' := [some (.retAddr 21), some (.int (iI c)), some (.int (iI 4))]) (st' := [.int (iI c), .int (iI 111)]) (g1 := g) rfl ?_
          refine RQ.if2 (a := 111) (b := c) rfl rfl rfl rfl (by omega) (by omega) (fun (h5 : 111 ≠ c) => ?_) (fun (h5 : ¬ 111 ≠ c) => ?_)
          · skip
            refine RQ.seg 4 (pc' := 4) (L' := [some (.retAddr 21), some (.int (iI c)), some (.int (iI 5))]) (st' := [.retAddr 21, .int (iI 5)]) (g1 := g) rfl ?_
            refine RQ.call rfl rfl (rv := some (.int (iI 6))) (Or.inl ⟨rfl, Or.inl ⟨rfl, by omega, 1, by decide, rfl, rfl⟩⟩) ?_
            refine RQ.seg 3 (pc' := 12) (L' := [some (.retAddr 21), some (.int (iI c)), some (.int (iI 5))]) (st' := [.int (iI 5), .retAddr 21]) (g1 := g) rfl ?_
            refine RQ.call rfl rfl (rv := some (.int (iI 107))) (Or.inl ⟨rfl, Or.inr ⟨rfl, by omega, 1, 5, by decide, by decide, rfl, rfl⟩⟩) ?_
            refine RQ.seg 1 (pc' := 16) (L' := [some (.retAddr 21), some (.int (iI c)), some (.int (iI 5))]) (st' := [.int (iI c), .int (iI 107)]) (g1 := g) rfl ?_
            refine RQ.if2 (a := 107) (b := c) rfl rfl rfl rfl (by omega) (by omega) (fun (h6 : 107 ≠ c) => ?_) (fun (h6 : ¬ 107 ≠ c) => ?_)
            · skip
              refine RQ.seg 4 (pc' := 4) (L' := [some (.retAddr 21), some (.int (iI c)), some (.int (iI 6))]) (st' := [.retAddr 21, .int (iI 6)]) (g1 := g) rfl ?_
              refine RQ.call rfl rfl (rv := some (.int (iI 6))) (Or.inl ⟨rfl, Or.inl ⟨rfl, by omega, 1, by decide, rfl, rfl⟩⟩) ?_
              refine RQ.seg 2 (pc' := 28) (L' := [some (.retAddr 21), some (.int (iI c)), some (.int (iI 6))]) (st' := [.int (iI 0)]) (g1 := g) rfl ?_
              refine RQ.ret rfl rfl ?_
              first | exact ⟨rfl, rfl⟩ | (exfalso; omega)
            · skip
              refine RQ.seg 1 (pc' := 20) (L' := [some (.retAddr 21), some (.int (iI c)), some (.int (iI 5))]) (st' := [.int (iI 1)]) (g1 := g) rfl ?_
              refine RQ.ret rfl rfl ?_
              first | exact ⟨rfl, rfl⟩ | (exfalso; omega)
          · skip
            refine RQ.seg 1 (pc' := 20) (L' := [some (.retAddr 21), some (.int (iI c)), some (.int (iI 4))]) (st' := [.int (iI 1)]) (g1 := g) rfl ?_
            refine RQ.ret rfl rfl ?_
            first | exact ⟨rfl, rfl⟩ | (exfalso; omega)
        · skip
          refine RQ.seg 1 (pc' := 20) (L' := [some (.retAddr 21), some (.int (iI c)), some (.int (iI 3))]) (st' := [.int (iI 1)]) (g1 := g) rfl ?_
          refine RQ.ret rfl rfl ?_
          first | exact ⟨rfl, rfl⟩ | (exfalso; omega)
      · skip
        refine RQ.seg 1 (pc' := 20) (L' := [some (.retAddr 21), some (.int (iI c)), some (.int (iI 2))]) (st' := [.int (iI 1)]) (g1 := g) rfl ?_
        refine RQ.ret rfl rfl ?_
        first | exact ⟨rfl, rfl⟩ | (exfalso; omega)
    · skip
      refine RQ.seg 1 (pc' := 20) (L' := [some (.retAddr 21), some (.int (iI c)), some (.int (iI 1))]) (st' := [.int (iI 1)]) (g1 := g) rfl ?_
      refine RQ.ret rfl rfl ?_
      first | exact ⟨rfl, rfl⟩ | (exfalso; omega)
  · skip
    refine RQ.seg 1 (pc' := 20) (L' := [some (.retAddr 21), some (.int (iI c)), some (.int (iI 0))]) (st' := [.int (iI 1)]) (g1 := g) rfl ?_
    refine RQ.ret rfl rfl ?_
    first | exact ⟨rfl, rfl⟩ | (exfalso; omega)
theorem m_among_rf {K : PK} {d : Nat} {g : PG} {c : Int} (rc : -2147483648 ≤ c ∧ c < 2147483648) (hc : ¬ (pr c ≠ -1)) : CallR K (d + 5) 152 [.retAddr 21, .int (iI c)] g (some (.int (iI 0))) g := by
  apply CQ.x
  have hp : pr c ≠ -1 ↔ (c = 100 ∨ c = 104 ∨ c = 99 ∨ c = 102 ∨ c = 111 ∨ c = 107) := by unfold pr; (repeat (split <;> (try omega)))
  refine CQ.of (own := 11) (n := 3) (ini := false) (rt := (some .boolean)) (cd := cd152) (by decide +kernel) rfl (by decide +kernel) rfl (Nat.le_of_ble_eq_true rfl) ?_
  refine RQ.seg 4 (pc' := 4) (L' := [some (.retAddr 21), some (.int (iI c)), some (.int (iI 0))]) (st' := [.retAddr 21, .int (iI 0)]) (g1 := g) rfl ?_
  refine RQ.call rfl rfl (rv := some (.int (iI 6))) (Or.inl ⟨rfl, Or.inl ⟨rfl, by omega, 1, by decide, rfl, rfl⟩⟩) ?_
  refine RQ.seg 3 (pc' := 12) (L' := [some (.retAddr 21), some (.int (iI c)), some (.int (iI 0))]) (st' := [.int (iI 0), .retAddr 21]) (g1 := g) rfl ?_
  refine RQ.call rfl rfl (rv := some (.int (iI 100))) (Or.inl ⟨rfl, Or.inr ⟨rfl, by omega, 1, 0, by decide, by decide, rfl, rfl⟩⟩) ?_
  refine RQ.seg 1 (pc' := 16) (L' := [some (.retAddr 21), some (.int (iI c)), some (.int (iI 0))]) (st' := [.int (iI c), .int (iI 100)]) (g1 := g) rfl ?_
  refine RQ.if2 (a := 100) (b := c) rfl rfl rfl rfl (by omega) (by omega) (fun (h1 : 100 ≠ c) => ?_) (fun (h1 : ¬ 100 ≠ c) => ?_)
  · skip
    refine RQ.seg 4 (pc' := 4) (L' := [some (.retAddr 21), some (.int (iI c)), some (.int (iI 1))]) (st' := [.retAddr 21, .int (iI 1)]) (g1 := g) rfl ?_
    refine RQ.call rfl rfl (rv := some (.int (iI 6))) (Or.inl ⟨rfl, Or.inl ⟨rfl, by omega, 1, by decide, rfl, rfl⟩⟩) ?_
    refine RQ.seg 3 (pc' := 12) (L' := [some (.retAddr 21), some (.int (iI c)), some (.int (iI 1))]) (st' := [.int (iI 1), .retAddr 21]) (g1 := g) rfl ?_
    refine RQ.call rfl rfl (rv := some (.int (iI 104))) (Or.inl ⟨rfl, Or.inr ⟨rfl, by omega, 1, 1, by decide, by decide, rfl, rfl⟩⟩) ?_
    refine RQ.seg 1 (pc' := 16) (L' := [some (.retAddr 21), some (.int (iI c)), some (.int (iI 1))]) (st' := [.int (iI c), .int (iI 104)]) (g1 := g) rfl ?_
    refine RQ.if2 (a := 104) (b := c) rfl rfl rfl rfl (by omega) (by omega) (fun (h2 : 104 ≠ c) => ?_) (fun (h2 : ¬ 104 ≠ c) => ?_)
    · skip
      refine RQ.seg 4 (pc' := 4) (L' := [some (.retAddr 21), some (.int (iI c)), some (.int (iI 2))]) (st' := [.retAddr 21, .int (iI 2)]) (g1 := g) rfl ?_
      refine RQ.call rfl rfl (rv := some (.int (iI 6))) (Or.inl ⟨rfl, Or.inl ⟨rfl, by omega, 1, by decide, rfl, rfl⟩⟩) ?_
      refine RQ.seg 3 (pc' := 12) (L' := [some (.retAddr 21), some (.int (iI c)), some (.int (iI 2))]) (st' := [.int (iI 2), .retAddr 21]) (g1 := g) rfl ?_
      refine RQ.call rfl rfl (rv := some (.int (iI 99))) (Or.inl ⟨rfl, Or.inr ⟨rfl, by omega, 1, 2, by decide, by decide, rfl, rfl⟩⟩) ?_
      refine RQ.seg 1 (pc' := 16) (L' := [some (.retAddr 21), some (.int (iI c)), some (.int (iI 2))]) (st' := [.int (iI c), .int (iI 99)]) (g1 := g) rfl ?_
      refine RQ.if2 (a := 99) (b := c) rfl rfl rfl rfl (by omega) (by omega) (fun (h3 : 99 ≠ c) => ?_) (fun (h3 : ¬ 99 ≠ c) => ?_)
      · skip
        refine RQ.seg 4 (pc' := 4) (L' := [some (.retAddr 21), some (.int (iI c)), some (.int (iI 3))]) (st' := [.retAddr 21, .int (iI 3)]) (g1 := g) rfl ?_
        refine RQ.call rfl rfl (rv := some (.int (iI 6))) (Or.inl ⟨rfl, Or.inl ⟨rfl, by omega, 1, by decide, rfl, rfl⟩⟩) ?_
        refine RQ.seg 3 (pc' := 12) (L' := [some (.retAddr 21), some (.int (iI c)), some (.int (iI 3))]) (st' := [.int (iI 3), .retAddr 21]) (g1 := g) rfl ?_
        refine RQ.call rfl rfl (rv := some (.int (iI 102))) (Or.inl ⟨rfl, Or.inr ⟨rfl, by omega, 1, 3, by decide, by decide, rfl, rfl⟩⟩) ?_
        refine RQ.seg 1 (pc' := 16) (L' := [some (.retAddr 21), some (.int (iI c)), some (.int (iI 3))]) (st' := [.int (iI c), .int (iI 102)]) (g1 := g) rfl ?_
        refine RQ.if2 (a := 102) (b := c) rfl rfl rfl rfl (by omega) (by omega) (fun (h4 : 102 ≠ c) => ?_) (fun (h4 : ¬ 102 ≠ c) => ?_)
        · skip
          refine RQ.seg 4 (pc' := 4) (L' := [some (.retAddr 21), some (.int (iI c)), some (.int (iI 4))]) (st' := [.retAddr 21, .int (iI 4)]) (g1 := g) rfl ?_
          refine RQ.call rfl rfl (rv := some (.int (iI 6))) (Or.inl ⟨rfl, Or.inl ⟨rfl, by omega, 1, by decide, rfl, rfl⟩⟩) ?_
          refine RQ.seg 3 (pc' := 12) (L' := [some (.retAddr 21), some (.int (iI c)), some (.int (iI 4))]) (st' := [.int (iI 4), .retAddr 21]) (g1 := g) rfl ?_
          refine RQ.call rfl rfl (rv := some (.int (iI 111))) (Or.inl ⟨rfl, Or.inr ⟨rfl, by omega, 1, 4, by decide, by decide, rfl, rfl⟩⟩) ?_
          refine RQ.seg 1 (pc' := 16) (L' := [some (.retAddr 21), some (.int (iI c)), some (.int (iI 4))]) (st' := [.int (iI c), .int (iI 111)]) (g1 := g) rfl ?_
          refine RQ.if2 (a := 111) (b := c) rfl rfl rfl rfl (by omega) (by omega) (fun (h5 : 111 ≠ c) => ?_) (fun (h5 : ¬ 111 ≠ c) => ?_)
          · skip
            refine RQ.seg 4 (pc' := 4) (L' := [some (.retAddr 21), some (.int (iI c)), some (.int (iI 5))]) (st' := [.retAddr 21, .int (iI 5)]) (g1 := g) rfl ?_
            refine RQ.call rfl rfl (rv := some (.int (iI 6))) (Or.inl ⟨rfl, Or.inl ⟨rfl, by omega, 1, by decide, rfl, rfl⟩⟩) ?_
            refine RQ.seg 3 (pc' := 12) (L' := [some (.retAddr 21), some (.int (iI c)), some (.int (iI 5))]) (st' := [.int (iI 5), .retAddr 21]) (g1 := g) rfl ?_
            refine RQ.call rfl rfl (rv := some (.int (iI 107))) (Or.inl ⟨rfl, Or.inr ⟨rfl, by omega, 1, 5, by decide, by decide, rfl, rfl⟩⟩) ?_
            refine RQ.seg 1 (pc' := 16) (L' := [some (.retAddr 21), some (.int (iI c)), some (.int (iI 5))]) (st' := [.int (iI c), .int (iI 107)]) (g1 := g) rfl ?_
            refine RQ.if2 (a := 107) (b := c) rfl rfl rfl rfl (by omega) (by omega) (fun (h6 : 107 ≠ c) => ?_) (fun (h6 : ¬ 107 ≠ c) => ?_)
            · skip
              refine RQ.seg 4 (pc' := 4) (L' := [some (.retAddr 21), some (.int (iI c)), some (.int (iI 6))]) (st' := [.retAddr 21, .int (iI 6)]) (g1 := g) rfl ?_
              refine RQ.call rfl rfl (rv := some (.int (iI 6))) (Or.inl ⟨rfl, Or.inl ⟨rfl, by omega, 1, by decide, rfl, rfl⟩⟩) ?_
              refine RQ.seg 2 (pc' := 28) (L' := [some (.retAddr 21), some (.int (iI c)), some (.int (iI 6))]) (st' := [.int (iI 0)]) (g1 := g) rfl ?_
              refine RQ.ret rfl rfl ?_
              first | exact ⟨rfl, rfl⟩ | (exfalso; omega)
            · skip
              refine RQ.seg 1 (pc' := 20) (L' := [some (.retAddr 21), some (.int (iI c)), some (.int (iI 5))]) (st' := [.int (iI 1)]) (g1 := g) rfl ?_
              refine RQ.ret rfl rfl ?_
              first | exact ⟨rfl, rfl⟩ | (exfalso; omega)
          · skip
            refine RQ.seg 1 (pc' := 20) (L' := [some (.retAddr 21), some (.int (iI c)), some (.int (iI 4))]) (st' := [.int (iI 1)]) (g1 := g) rfl ?_
            refine RQ.ret rfl rfl ?_
            first | exact ⟨rfl, rfl⟩ | (exfalso; omega)
        · skip
          refine RQ.seg 1 (pc' := 20) (L' := [some (.retAddr 21), some (.int (iI c)), some (.int (iI 3))]) (st' := [.int (iI 1)]) (g1 := g) rfl ?_
          refine RQ.ret rfl rfl ?_
          first | exact ⟨rfl, rfl⟩ | (exfalso; omega)
      · skip
        refine RQ.seg 1 (pc' := 20) (L' := [some (.retAddr 21), some (.int (iI c)), some (.int (iI 2))]) (st' := [.int (iI 1)]) (g1 := g) rfl ?_
        refine RQ.ret rfl rfl ?_
        first | exact ⟨rfl, rfl⟩ | (exfalso; omega)
    · skip
      refine RQ.seg 1 (pc' := 20) (L' := [some (.retAddr 21), some (.int (iI c)), some (.int (iI 1))]) (st' := [.int (iI 1)]) (g1 := g) rfl ?_
      refine RQ.ret rfl rfl ?_
      first | exact ⟨rfl, rfl⟩ | (exfalso; omega)
  · skip
    refine RQ.seg 1 (pc' := 20) (L' := [some (.retAddr 21), some (.int (iI c)), some (.int (iI 0))]) (st' := [.int (iI 1)]) (g1 := g) rfl ?_
    refine RQ.ret rfl rfl ?_
    first | exact ⟨rfl, rfl⟩ | (exfalso; omega)
theorem m_usual_w {K : PK} {d : Nat} {g : PG} {c j : Int} (hc : c = 119) (hj : 0 ≤ j ∧ j < 4) : CallR K (d + 1) 176 [.int (iI c), .int (iI j)] g (some (.int (iI (kc5 j)))) g := by
  apply CQ.x
  refine CQ.of (own := 11) (n := 2) (ini := false) (rt := (some .int)) (cd := cd176) (by decide +kernel) rfl (by decide +kernel) rfl (Nat.le_of_ble_eq_true rfl) ?_
  refine RQ.seg 2 (pc' := 3) (L' := [some (.int (iI c)), some (.int (iI j))]) (st' := [.int (iI 119), .int (iI c)]) (g1 := g) rfl ?_
  refine RQ.if2 (a := c) (b := 119) rfl rfl rfl rfl (by omega) (by omega) (fun (h1 : c ≠ 119) => ?_) (fun (h1 : ¬ c ≠ 119) => ?_)
  · skip
    refine RQ.seg 2 (pc' := 38) (L' := [some (.int (iI c)), some (.int (iI j))]) (st' := [.int (iI 98), .int (iI c)]) (g1 := g) rfl ?_
    refine RQ.if2 (a := c) (b := 98) rfl rfl rfl rfl (by omega) (by omega) (fun (h2 : c ≠ 98) => ?_) (fun (h2 : ¬ c ≠ 98) => ?_)
    · skip
      refine RQ.seg 1 (pc' := 62) (L' := [some (.int (iI c)), some (.int (iI j))]) (st' := [.int (iI j)]) (g1 := g) rfl ?_
      refine RQ.if1 (a := j) rfl rfl rfl (by omega) (fun (h3 : j ≠ 0) => ?_) (fun (h3 : ¬ j ≠ 0) => ?_)
      · skip
        refine RQ.seg 1 (pc' := 71) (L' := [some (.int (iI c)), some (.int (iI j))]) (st' := [.int (iI 0)]) (g1 := g) rfl ?_
        refine RQ.ret rfl rfl ?_
        first | (exfalso; omega) | (refine ⟨?_, rfl⟩; congr 3; rcases (show j = 0 ∨ j = 1 ∨ j = 2 ∨ j = 3 by omega) with rfl | rfl | rfl | rfl <;> first | rfl | (exfalso; omega))
      · skip
        refine RQ.seg 2 (pc' := 71) (L' := [some (.int (iI c)), some (.int (iI j))]) (st' := [.int (iI 10)]) (g1 := g) rfl ?_
        refine RQ.ret rfl rfl ?_
        first | (exfalso; omega) | (refine ⟨?_, rfl⟩; congr 3; rcases (show j = 0 ∨ j = 1 ∨ j = 2 ∨ j = 3 by omega) with rfl | rfl | rfl | rfl <;> first | rfl | (exfalso; omega))
    · skip
      refine RQ.seg 1 (pc' := 42) (L' := [some (.int (iI c)), some (.int (iI j))]) (st' := [.int (iI j)]) (g1 := g) rfl ?_
      refine RQ.if1 (a := j) rfl rfl rfl (by omega) (fun (h4 : j ≠ 0) => ?_) (fun (h4 : ¬ j ≠ 0) => ?_)
      · skip
        refine RQ.seg 2 (pc' := 51) (L' := [some (.int (iI c)), some (.int (iI j))]) (st' := [.int (iI 1), .int (iI j)]) (g1 := g) rfl ?_
        refine RQ.if2 (a := j) (b := 1) rfl rfl rfl rfl (by omega) (by omega) (fun (h5 : j ≠ 1) => ?_) (fun (h5 : ¬ j ≠ 1) => ?_)
        · skip
          refine RQ.seg 1 (pc' := 60) (L' := [some (.int (iI c)), some (.int (iI j))]) (st' := [.int (iI 1)]) (g1 := g) rfl ?_
          refine RQ.ret rfl rfl ?_
          first | (exfalso; omega) | (refine ⟨?_, rfl⟩; congr 3; rcases (show j = 0 ∨ j = 1 ∨ j = 2 ∨ j = 3 by omega) with rfl | rfl | rfl | rfl <;> first | rfl | (exfalso; omega))
        · skip
          refine RQ.seg 2 (pc' := 60) (L' := [some (.int (iI c)), some (.int (iI j))]) (st' := [.int (iI 6)]) (g1 := g) rfl ?_
          refine RQ.ret rfl rfl ?_
          first | (exfalso; omega) | (refine ⟨?_, rfl⟩; congr 3; rcases (show j = 0 ∨ j = 1 ∨ j = 2 ∨ j = 3 by omega) with rfl | rfl | rfl | rfl <;> first | rfl | (exfalso; omega))
      · skip
        refine RQ.seg 2 (pc' := 60) (L' := [some (.int (iI c)), some (.int (iI j))]) (st' := [.int (iI 0)]) (g1 := g) rfl ?_
        refine RQ.ret rfl rfl ?_
        first | (exfalso; omega) | (refine ⟨?_, rfl⟩; congr 3; rcases (show j = 0 ∨ j = 1 ∨ j = 2 ∨ j = 3 by omega) with rfl | rfl | rfl | rfl <;> first | rfl | (exfalso; omega))
  · skip
    refine RQ.seg 1 (pc' := 7) (L' := [some (.int (iI c)), some (.int (iI j))]) (st' := [.int (iI j)]) (g1 := g) rfl ?_
    refine RQ.if1 (a := j) rfl rfl rfl (by omega) (fun (h6 : j ≠ 0) => ?_) (fun (h6 : ¬ j ≠ 0) => ?_)
    · skip
      refine RQ.seg 2 (pc' := 16) (L' := [some (.int (iI c)), some (.int (iI j))]) (st' := [.int (iI 1), .int (iI j)]) (g1 := g) rfl ?_
      refine RQ.if2 (a := j) (b := 1) rfl rfl rfl rfl (by omega) (by omega) (fun (h7 : j ≠ 1) => ?_) (fun (h7 : ¬ j ≠ 1) => ?_)
      · skip
        refine RQ.seg 2 (pc' := 25) (L' := [some (.int (iI c)), some (.int (iI j))]) (st' := [.int (iI 2), .int (iI j)]) (g1 := g) rfl ?_
        refine RQ.if2 (a := j) (b := 2) rfl rfl rfl rfl (by omega) (by omega) (fun (h8 : j ≠ 2) => ?_) (fun (h8 : ¬ j ≠ 2) => ?_)
        · skip
          refine RQ.seg 1 (pc' := 34) (L' := [some (.int (iI c)), some (.int (iI j))]) (st' := [.int (iI 30)]) (g1 := g) rfl ?_
          refine RQ.ret rfl rfl ?_
          first | (exfalso; omega) | (refine ⟨?_, rfl⟩; congr 3; rcases (show j = 0 ∨ j = 1 ∨ j = 2 ∨ j = 3 by omega) with rfl | rfl | rfl | rfl <;> first | rfl | (exfalso; omega))
        · skip
          refine RQ.seg 2 (pc' := 34) (L' := [some (.int (iI c)), some (.int (iI j))]) (st' := [.int (iI 1)]) (g1 := g) rfl ?_
          refine RQ.ret rfl rfl ?_
          first | (exfalso; omega) | (refine ⟨?_, rfl⟩; congr 3; rcases (show j = 0 ∨ j = 1 ∨ j = 2 ∨ j = 3 by omega) with rfl | rfl | rfl | rfl <;> first | rfl | (exfalso; omega))
      · skip
        refine RQ.seg 2 (pc' := 34) (L' := [some (.int (iI c)), some (.int (iI j))]) (st' := [.int (iI 3)]) (g1 := g) rfl ?_
        refine RQ.ret rfl rfl ?_
        first | (exfalso; omega) | (refine ⟨?_, rfl⟩; congr 3; rcases (show j = 0 ∨ j = 1 ∨ j = 2 ∨ j = 3 by omega) with rfl | rfl | rfl | rfl <;> first | rfl | (exfalso; omega))
    · skip
      refine RQ.seg 2 (pc' := 34) (L' := [some (.int (iI c)), some (.int (iI j))]) (st' := [.int (iI 0)]) (g1 := g) rfl ?_
      refine RQ.ret rfl rfl ?_
      first | (exfalso; omega) | (refine ⟨?_, rfl⟩; congr 3; rcases (show j = 0 ∨ j = 1 ∨ j = 2 ∨ j = 3 by omega) with rfl | rfl | rfl | rfl <;> first | rfl | (exfalso; omega))
theorem m_least_w {K : PK} {d : Nat} {g : PG} {c j : Int} (hc : c = 119) (hj : 0 ≤ j ∧ j < 4) : CallR K (d + 1) 177 [.int (iI c), .int (iI j)] g (some (.int (iI (kc6 j)))) g := by
  apply CQ.x
  refine CQ.of (own := 11) (n := 2) (ini := false) (rt := (some .int)) (cd := cd177) (by decide +kernel) rfl (by decide +kernel) rfl (Nat.le_of_ble_eq_true rfl) ?_
  refine RQ.seg 2 (pc' := 3) (L' := [some (.int (iI c)), some (.int (iI j))]) (st' := [.int (iI 119), .int (iI c)]) (g1 := g) rfl ?_
  refine RQ.if2 (a := c) (b := 119) rfl rfl rfl rfl (by omega) (by omega) (fun (h1 : c ≠ 119) => ?_) (fun (h1 : ¬ c ≠ 119) => ?_)
  · skip
    refine RQ.seg 2 (pc' := 19) (L' := [some (.int (iI c)), some (.int (iI j))]) (st' := [.int (iI 98), .int (iI c)]) (g1 := g) rfl ?_
    refine RQ.if2 (a := c) (b := 98) rfl rfl rfl rfl (by omega) (by omega) (fun (h2 : c ≠ 98) => ?_) (fun (h2 : ¬ c ≠ 98) => ?_)
    · skip
      refine RQ.seg 1 (pc' := 31) (L' := [some (.int (iI c)), some (.int (iI j))]) (st' := [.int (iI 0)]) (g1 := g) rfl ?_
      refine RQ.ret rfl rfl ?_
      first | (exfalso; omega) | (refine ⟨?_, rfl⟩; congr 3; rcases (show j = 0 ∨ j = 1 ∨ j = 2 ∨ j = 3 by omega) with rfl | rfl | rfl | rfl <;> first | rfl | (exfalso; omega))
    · skip
      refine RQ.seg 1 (pc' := 23) (L' := [some (.int (iI c)), some (.int (iI j))]) (st' := [.int (iI j)]) (g1 := g) rfl ?_
      refine RQ.if1 (a := j) rfl rfl rfl (by omega) (fun (h3 : j ≤ 0) => ?_) (fun (h3 : ¬ j ≤ 0) => ?_)
      · skip
        refine RQ.seg 1 (pc' := 31) (L' := [some (.int (iI c)), some (.int (iI j))]) (st' := [.int (iI 0)]) (g1 := g) rfl ?_
        refine RQ.ret rfl rfl ?_
        first | (exfalso; omega) | (refine ⟨?_, rfl⟩; congr 3; rcases (show j = 0 ∨ j = 1 ∨ j = 2 ∨ j = 3 by omega) with rfl | rfl | rfl | rfl <;> first | rfl | (exfalso; omega))
      · skip
        refine RQ.seg 2 (pc' := 31) (L' := [some (.int (iI c)), some (.int (iI j))]) (st' := [.int (iI 1)]) (g1 := g) rfl ?_
        refine RQ.ret rfl rfl ?_
        first | (exfalso; omega) | (refine ⟨?_, rfl⟩; congr 3; rcases (show j = 0 ∨ j = 1 ∨ j = 2 ∨ j = 3 by omega) with rfl | rfl | rfl | rfl <;> first | rfl | (exfalso; omega))
  · skip
    refine RQ.seg 2 (pc' := 8) (L' := [some (.int (iI c)), some (.int (iI j))]) (st' := [.int (iI 1), .int (iI j)]) (g1 := g) rfl ?_
    refine RQ.if2 (a := j) (b := 1) rfl rfl rfl rfl (by omega) (by omega) (fun (h4 : j = 1) => ?_) (fun (h4 : ¬ j = 1) => ?_)
    · skip
      refine RQ.seg 2 (pc' := 31) (L' := [some (.int (iI c)), some (.int (iI j))]) (st' := [.int (iI 1)]) (g1 := g) rfl ?_
      refine RQ.ret rfl rfl ?_
      first | (exfalso; omega) | (refine ⟨?_, rfl⟩; congr 3; rcases (show j = 0 ∨ j = 1 ∨ j = 2 ∨ j = 3 by omega) with rfl | rfl | rfl | rfl <;> first | rfl | (exfalso; omega))
    · skip
      refine RQ.seg 2 (pc' := 13) (L' := [some (.int (iI c)), some (.int (iI j))]) (st' := [.int (iI 3), .int (iI j)]) (g1 := g) rfl ?_
      refine RQ.if2 (a := j) (b := 3) rfl rfl rfl rfl (by omega) (by omega) (fun (h5 : j = 3) => ?_) (fun (h5 : ¬ j = 3) => ?_)
      · skip
        refine RQ.seg 2 (pc' := 31) (L' := [some (.int (iI c)), some (.int (iI j))]) (st' := [.int (iI 1)]) (g1 := g) rfl ?_
        refine RQ.ret rfl rfl ?_
        first | (exfalso; omega) | (refine ⟨?_, rfl⟩; congr 3; rcases (show j = 0 ∨ j = 1 ∨ j = 2 ∨ j = 3 by omega) with rfl | rfl | rfl | rfl <;> first | rfl | (exfalso; omega))
      · skip
        refine RQ.seg 2 (pc' := 19) (L' := [some (.int (iI c)), some (.int (iI j))]) (st' := [.int (iI 98), .int (iI c)]) (g1 := g) rfl ?_
        refine RQ.if2 (a := c) (b := 98) rfl rfl rfl rfl (by omega) (by omega) (fun (h6 : c ≠ 98) => ?_) (fun (h6 : ¬ c ≠ 98) => ?_)
        · skip
          refine RQ.seg 1 (pc' := 31) (L' := [some (.int (iI c)), some (.int (iI j))]) (st' := [.int (iI 0)]) (g1 := g) rfl ?_
          refine RQ.ret rfl rfl ?_
          first | (exfalso; omega) | (refine ⟨?_, rfl⟩; congr 3; rcases (show j = 0 ∨ j = 1 ∨ j = 2 ∨ j = 3 by omega) with rfl | rfl | rfl | rfl <;> first | rfl | (exfalso; omega))
        · skip
          refine RQ.seg 1 (pc' := 23) (L' := [some (.int (iI c)), some (.int (iI j))]) (st' := [.int (iI j)]) (g1 := g) rfl ?_
          refine RQ.if1 (a := j) rfl rfl rfl (by omega) (fun (h7 : j ≤ 0) => ?_) (fun (h7 : ¬ j ≤ 0) => ?_)
          · skip
            refine RQ.seg 1 (pc' := 31) (L' := [some (.int (iI c)), some (.int (iI j))]) (st' := [.int (iI 0)]) (g1 := g) rfl ?_
            refine RQ.ret rfl rfl ?_
            first | (exfalso; omega) | (refine ⟨?_, rfl⟩; congr 3; rcases (show j = 0 ∨ j = 1 ∨ j = 2 ∨ j = 3 by omega) with rfl | rfl | rfl | rfl <;> first | rfl | (exfalso; omega))
          · skip
            refine RQ.seg 2 (pc' := 31) (L' := [some (.int (iI c)), some (.int (iI j))]) (st' := [.int (iI 1)]) (g1 := g) rfl ?_
            refine RQ.ret rfl rfl ?_
            first | (exfalso; omega) | (refine ⟨?_, rfl⟩; congr 3; rcases (show j = 0 ∨ j = 1 ∨ j = 2 ∨ j = 3 by omega) with rfl | rfl | rfl | rfl <;> first | rfl | (exfalso; omega))
theorem m_most_w {K : PK} {d : Nat} {g : PG} {c j : Int} (hc : c = 119) (hj : 0 ≤ j ∧ j < 4) : CallR K (d + 1) 178 [.int (iI c), .int (iI j)] g (some (.int (iI (kc7 j)))) g := by
  apply CQ.x
  refine CQ.of (own := 11) (n := 2) (ini := false) (rt := (some .int)) (cd := cd178) (by decide +kernel) rfl (by decide +kernel) rfl (Nat.le_of_ble_eq_true rfl) ?_
  refine RQ.seg 2 (pc' := 3) (L' := [some (.int (iI c)), some (.int (iI j))]) (st' := [.int (iI 119), .int (iI c)]) (g1 := g) rfl ?_
  refine RQ.if2 (a := c) (b := 119) rfl rfl rfl rfl (by omega) (by omega) (fun (h1 : c ≠ 119) => ?_) (fun (h1 : ¬ c ≠ 119) => ?_)
  · skip
    refine RQ.seg 2 (pc' := 30) (L' := [some (.int (iI c)), some (.int (iI j))]) (st' := [.int (iI 98), .int (iI c)]) (g1 := g) rfl ?_
    refine RQ.if2 (a := c) (b := 98) rfl rfl rfl rfl (by omega) (by omega) (fun (h2 : c ≠ 98) => ?_) (fun (h2 : ¬ c ≠ 98) => ?_)
    · skip
      refine RQ.seg 2 (pc' := 56) (L' := [some (.int (iI c)), some (.int (iI j))]) (st' := [.int (iI 3), .int (iI j)]) (g1 := g) rfl ?_
      refine RQ.if2 (a := j) (b := 3) rfl rfl rfl rfl (by omega) (by omega) (fun (h3 : j ≠ 3) => ?_) (fun (h3 : ¬ j ≠ 3) => ?_)
      · skip
        refine RQ.seg 1 (pc' := 65) (L' := [some (.int (iI c)), some (.int (iI j))]) (st' := [.int (iI 99)]) (g1 := g) rfl ?_
        refine RQ.ret rfl rfl ?_
        first | (exfalso; omega) | (refine ⟨?_, rfl⟩; congr 3; rcases (show j = 0 ∨ j = 1 ∨ j = 2 ∨ j = 3 by omega) with rfl | rfl | rfl | rfl <;> first | rfl | (exfalso; omega))
      · skip
        refine RQ.seg 2 (pc' := 65) (L' := [some (.int (iI c)), some (.int (iI j))]) (st' := [.int (iI 2)]) (g1 := g) rfl ?_
        refine RQ.ret rfl rfl ?_
        first | (exfalso; omega) | (refine ⟨?_, rfl⟩; congr 3; rcases (show j = 0 ∨ j = 1 ∨ j = 2 ∨ j = 3 by omega) with rfl | rfl | rfl | rfl <;> first | rfl | (exfalso; omega))
    · skip
      refine RQ.seg 1 (pc' := 34) (L' := [some (.int (iI c)), some (.int (iI j))]) (st' := [.int (iI j)]) (g1 := g) rfl ?_
      refine RQ.if1 (a := j) rfl rfl rfl (by omega) (fun (h4 : j ≠ 0) => ?_) (fun (h4 : ¬ j ≠ 0) => ?_)
      · skip
        refine RQ.seg 2 (pc' := 44) (L' := [some (.int (iI c)), some (.int (iI j))]) (st' := [.int (iI 1), .int (iI j)]) (g1 := g) rfl ?_
        refine RQ.if2 (a := j) (b := 1) rfl rfl rfl rfl (by omega) (by omega) (fun (h5 : j ≠ 1) => ?_) (fun (h5 : ¬ j ≠ 1) => ?_)
        · skip
          refine RQ.seg 1 (pc' := 53) (L' := [some (.int (iI c)), some (.int (iI j))]) (st' := [.int (iI 5)]) (g1 := g) rfl ?_
          refine RQ.ret rfl rfl ?_
          first | (exfalso; omega) | (refine ⟨?_, rfl⟩; congr 3; rcases (show j = 0 ∨ j = 1 ∨ j = 2 ∨ j = 3 by omega) with rfl | rfl | rfl | rfl <;> first | rfl | (exfalso; omega))
        · skip
          refine RQ.seg 2 (pc' := 53) (L' := [some (.int (iI c)), some (.int (iI j))]) (st' := [.int (iI 12)]) (g1 := g) rfl ?_
          refine RQ.ret rfl rfl ?_
          first | (exfalso; omega) | (refine ⟨?_, rfl⟩; congr 3; rcases (show j = 0 ∨ j = 1 ∨ j = 2 ∨ j = 3 by omega) with rfl | rfl | rfl | rfl <;> first | rfl | (exfalso; omega))
      · skip
        refine RQ.seg 2 (pc' := 53) (L' := [some (.int (iI c)), some (.int (iI j))]) (st' := [.int (iI 30)]) (g1 := g) rfl ?_
        refine RQ.ret rfl rfl ?_
        first | (exfalso; omega) | (refine ⟨?_, rfl⟩; congr 3; rcases (show j = 0 ∨ j = 1 ∨ j = 2 ∨ j = 3 by omega) with rfl | rfl | rfl | rfl <;> first | rfl | (exfalso; omega))
  · skip
    refine RQ.seg 1 (pc' := 7) (L' := [some (.int (iI c)), some (.int (iI j))]) (st' := [.int (iI j)]) (g1 := g) rfl ?_
    refine RQ.if1 (a := j) rfl rfl rfl (by omega) (fun (h6 : j ≠ 0) => ?_) (fun (h6 : ¬ j ≠ 0) => ?_)
    · skip
      refine RQ.seg 2 (pc' := 16) (L' := [some (.int (iI c)), some (.int (iI j))]) (st' := [.int (iI 3), .int (iI j)]) (g1 := g) rfl ?_
      refine RQ.if2 (a := j) (b := 3) rfl rfl rfl rfl (by omega) (by omega) (fun (h7 : j ≠ 3) => ?_) (fun (h7 : ¬ j ≠ 3) => ?_)
      · skip
        refine RQ.seg 1 (pc' := 26) (L' := [some (.int (iI c)), some (.int (iI j))]) (st' := [.int (iI 9)]) (g1 := g) rfl ?_
        refine RQ.ret rfl rfl ?_
        first | (exfalso; omega) | (refine ⟨?_, rfl⟩; congr 3; rcases (show j = 0 ∨ j = 1 ∨ j = 2 ∨ j = 3 by omega) with rfl | rfl | rfl | rfl <;> first | rfl | (exfalso; omega))
      · skip
        refine RQ.seg 2 (pc' := 26) (L' := [some (.int (iI c)), some (.int (iI j))]) (st' := [.int (iI 60)]) (g1 := g) rfl ?_
        refine RQ.ret rfl rfl ?_
        first | (exfalso; omega) | (refine ⟨?_, rfl⟩; congr 3; rcases (show j = 0 ∨ j = 1 ∨ j = 2 ∨ j = 3 by omega) with rfl | rfl | rfl | rfl <;> first | rfl | (exfalso; omega))
    · skip
      refine RQ.seg 2 (pc' := 26) (L' := [some (.int (iI c)), some (.int (iI j))]) (st' := [.int (iI 5)]) (g1 := g) rfl ?_
      refine RQ.ret rfl rfl ?_
      first | (exfalso; omega) | (refine ⟨?_, rfl⟩; congr 3; rcases (show j = 0 ∨ j = 1 ∨ j = 2 ∨ j = 3 by omega) with rfl | rfl | rfl | rfl <;> first | rfl | (exfalso; omega))
theorem m_usual_b {K : PK} {d : Nat} {g : PG} {c j : Int} (hc : c = 98) (hj : 0 ≤ j ∧ j < 3) : CallR K (d + 1) 176 [.int (iI c), .int (iI j)] g (some (.int (iI (kc8 j)))) g := by
  apply CQ.x
  refine CQ.of (own := 11) (n := 2) (ini := false) (rt := (some .int)) (cd := cd176) (by decide +kernel) rfl (by decide +kernel) rfl (Nat.le_of_ble_eq_true rfl) ?_
  refine RQ.seg 2 (pc' := 3) (L' := [some (.int (iI c)), some (.int (iI j))]) (st' := [.int (iI 119), .int (iI c)]) (g1 := g) rfl ?_
  refine RQ.if2 (a := c) (b := 119) rfl rfl rfl rfl (by omega) (by omega) (fun (h1 : c ≠ 119) => ?_) (fun (h1 : ¬ c ≠ 119) => ?_)
  · skip
    refine RQ.seg 2 (pc' := 38) (L' := [some (.int (iI c)), some (.int (iI j))]) (st' := [.int (iI 98), .int (iI c)]) (g1 := g) rfl ?_
    refine RQ.if2 (a := c) (b := 98) rfl rfl rfl rfl (by omega) (by omega) (fun (h2 : c ≠ 98) => ?_) (fun (h2 : ¬ c ≠ 98) => ?_)
    · skip
      refine RQ.seg 1 (pc' := 62) (L' := [some (.int (iI c)), some (.int (iI j))]) (st' := [.int (iI j)]) (g1 := g) rfl ?_
      refine RQ.if1 (a := j) rfl rfl rfl (by omega) (fun (h3 : j ≠ 0) => ?_) (fun (h3 : ¬ j ≠ 0) => ?_)
      · skip
        refine RQ.seg 1 (pc' := 71) (L' := [some (.int (iI c)), some (.int (iI j))]) (st' := [.int (iI 0)]) (g1 := g) rfl ?_
        refine RQ.ret rfl rfl ?_
        first | (exfalso; omega) | (refine ⟨?_, rfl⟩; congr 3; rcases (show j = 0 ∨ j = 1 ∨ j = 2 by omega) with rfl | rfl | rfl <;> first | rfl | (exfalso; omega))
      · skip
        refine RQ.seg 2 (pc' := 71) (L' := [some (.int (iI c)), some (.int (iI j))]) (st' := [.int (iI 10)]) (g1 := g) rfl ?_
        refine RQ.ret rfl rfl ?_
        first | (exfalso; omega) | (refine ⟨?_, rfl⟩; congr 3; rcases (show j = 0 ∨ j = 1 ∨ j = 2 by omega) with rfl | rfl | rfl <;> first | rfl | (exfalso; omega))
    · skip
      refine RQ.seg 1 (pc' := 42) (L' := [some (.int (iI c)), some (.int (iI j))]) (st' := [.int (iI j)]) (g1 := g) rfl ?_
      refine RQ.if1 (a := j) rfl rfl rfl (by omega) (fun (h4 : j ≠ 0) => ?_) (fun (h4 : ¬ j ≠ 0) => ?_)
      · skip
        refine RQ.seg 2 (pc' := 51) (L' := [some (.int (iI c)), some (.int (iI j))]) (st' := [.int (iI 1), .int (iI j)]) (g1 := g) rfl ?_
        refine RQ.if2 (a := j) (b := 1) rfl rfl rfl rfl (by omega) (by omega) (fun (h5 : j ≠ 1) => ?_) (fun (h5 : ¬ j ≠ 1) => ?_)
        · skip
          refine RQ.seg 1 (pc' := 60) (L' := [some (.int (iI c)), some (.int (iI j))]) (st' := [.int (iI 1)]) (g1 := g) rfl ?_
          refine RQ.ret rfl rfl ?_
          first | (exfalso; omega) | (refine ⟨?_, rfl⟩; congr 3; rcases (show j = 0 ∨ j = 1 ∨ j = 2 by omega) with rfl | rfl | rfl <;> first | rfl | (exfalso; omega))
        · skip
          refine RQ.seg 2 (pc' := 60) (L' := [some (.int (iI c)), some (.int (iI j))]) (st' := [.int (iI 6)]) (g1 := g) rfl ?_
          refine RQ.ret rfl rfl ?_
          first | (exfalso; omega) | (refine ⟨?_, rfl⟩; congr 3; rcases (show j = 0 ∨ j = 1 ∨ j = 2 by omega) with rfl | rfl | rfl <;> first | rfl | (exfalso; omega))
      · skip
        refine RQ.seg 2 (pc' := 60) (L' := [some (.int (iI c)), some (.int (iI j))]) (st' := [.int (iI 0)]) (g1 := g) rfl ?_
        refine RQ.ret rfl rfl ?_
        first | (exfalso; omega) | (refine ⟨?_, rfl⟩; congr 3; rcases (show j = 0 ∨ j = 1 ∨ j = 2 by omega) with rfl | rfl | rfl <;> first | rfl | (exfalso; omega))
  · skip
    refine RQ.seg 1 (pc' := 7) (L' := [some (.int (iI c)), some (.int (iI j))]) (st' := [.int (iI j)]) (g1 := g) rfl ?_
    refine RQ.if1 (a := j) rfl rfl rfl (by omega) (fun (h6 : j ≠ 0) => ?_) (fun (h6 : ¬ j ≠ 0) => ?_)
    · skip
      refine RQ.seg 2 (pc' := 16) (L' := [some (.int (iI c)), some (.int (iI j))]) (st' := [.int (iI 1), .int (iI j)]) (g1 := g) rfl ?_
      refine RQ.if2 (a := j) (b := 1) rfl rfl rfl rfl (by omega) (by omega) (fun (h7 : j ≠ 1) => ?_) (fun (h7 : ¬ j ≠ 1) => ?_)
      · skip
        refine RQ.seg 2 (pc' := 25) (L' := [some (.int (iI c)), some (.int (iI j))]) (st' := [.int (iI 2), .int (iI j)]) (g1 := g) rfl ?_
        refine RQ.if2 (a := j) (b := 2) rfl rfl rfl rfl (by omega) (by omega) (fun (h8 : j ≠ 2) => ?_) (fun (h8 : ¬ j ≠ 2) => ?_)
        · skip
          refine RQ.seg 1 (pc' := 34) (L' := [some (.int (iI c)), some (.int (iI j))]) (st' := [.int (iI 30)]) (g1 := g) rfl ?_
          refine RQ.ret rfl rfl ?_
          first | (exfalso; omega) | (refine ⟨?_, rfl⟩; congr 3; rcases (show j = 0 ∨ j = 1 ∨ j = 2 by omega) with rfl | rfl | rfl <;> first | rfl | (exfalso; omega))
        · skip
          refine RQ.seg 2 (pc' := 34) (L' := [some (.int (iI c)), some (.int (iI j))]) (st' := [.int (iI 1)]) (g1 := g) rfl ?_
          refine RQ.ret rfl rfl ?_
          first | (exfalso; omega) | (refine ⟨?_, rfl⟩; congr 3; rcases (show j = 0 ∨ j = 1 ∨ j = 2 by omega) with rfl | rfl | rfl <;> first | rfl | (exfalso; omega))
      · skip
        refine RQ.seg 2 (pc' := 34) (L' := [some (.int (iI c)), some (.int (iI j))]) (st' := [.int (iI 3)]) (g1 := g) rfl ?_
        refine RQ.ret rfl rfl ?_
        first | (exfalso; omega) | (refine ⟨?_, rfl⟩; congr 3; rcases (show j = 0 ∨ j = 1 ∨ j = 2 by omega) with rfl | rfl | rfl <;> first | rfl | (exfalso; omega))
    · skip
      refine RQ.seg 2 (pc' := 34) (L' := [some (.int (iI c)), some (.int (iI j))]) (st' := [.int (iI 0)]) (g1 := g) rfl ?_
      refine RQ.ret rfl rfl ?_
      first | (exfalso; omega) | (refine ⟨?_, rfl⟩; congr 3; rcases (show j = 0 ∨ j = 1 ∨ j = 2 by omega) with rfl | rfl | rfl <;> first | rfl | (exfalso; omega))
theorem m_least_b {K : PK} {d : Nat} {g : PG} {c j : Int} (hc : c = 98) (hj : 0 ≤ j ∧ j < 3) : CallR K (d + 1) 177 [.int (iI c), .int (iI j)] g (some (.int (iI (kc9 j)))) g := by
  apply CQ.x
  refine CQ.of (own := 11) (n := 2) (ini := false) (rt := (some .int)) (cd := cd177) (by decide +kernel) rfl (by decide +kernel) rfl (Nat.le_of_ble_eq_true rfl) ?_
  refine RQ.seg 2 (pc' := 3) (L' := [some (.int (iI c)), some (.int (iI j))]) (st' := [.int (iI 119), .int (iI c)]) (g1 := g) rfl ?_
  refine RQ.if2 (a := c) (b := 119) rfl rfl rfl rfl (by omega) (by omega) (fun (h1 : c ≠ 119) => ?_) (fun (h1 : ¬ c ≠ 119) => ?_)
  · skip
    refine RQ.seg 2 (pc' := 19) (L' := [some (.int (iI c)), some (.int (iI j))]) (st' := [.int (iI 98), .int (iI c)]) (g1 := g) rfl ?_
    refine RQ.if2 (a := c) (b := 98) rfl rfl rfl rfl (by omega) (by omega) (fun (h2 : c ≠ 98) => ?_) (fun (h2 : ¬ c ≠ 98) => ?_)
    · skip
      refine RQ.seg 1 (pc' := 31) (L' := [some (.int (iI c)), some (.int (iI j))]) (st' := [.int (iI 0)]) (g1 := g) rfl ?_
      refine RQ.ret rfl rfl ?_
      first | (exfalso; omega) | (refine ⟨?_, rfl⟩; congr 3; rcases (show j = 0 ∨ j = 1 ∨ j = 2 by omega) with rfl | rfl | rfl <;> first | rfl | (exfalso; omega))
    · skip
      refine RQ.seg 1 (pc' := 23) (L' := [some (.int (iI c)), some (.int (iI j))]) (st' := [.int (iI j)]) (g1 := g) rfl ?_
      refine RQ.if1 (a := j) rfl rfl rfl (by omega) (fun (h3 : j ≤ 0) => ?_) (fun (h3 : ¬ j ≤ 0) => ?_)
      · skip
        refine RQ.seg 1 (pc' := 31) (L' := [some (.int (iI c)), some (.int (iI j))]) (st' := [.int (iI 0)]) (g1 := g) rfl ?_
        refine RQ.ret rfl rfl ?_
        first | (exfalso; omega) | (refine ⟨?_, rfl⟩; congr 3; rcases (show j = 0 ∨ j = 1 ∨ j = 2 by omega) with rfl | rfl | rfl <;> first | rfl | (exfalso; omega))
      · skip
        refine RQ.seg 2 (pc' := 31) (L' := [some (.int (iI c)), some (.int (iI j))]) (st' := [.int (iI 1)]) (g1 := g) rfl ?_
        refine RQ.ret rfl rfl ?_
        first | (exfalso; omega) | (refine ⟨?_, rfl⟩; congr 3; rcases (show j = 0 ∨ j = 1 ∨ j = 2 by omega) with rfl | rfl | rfl <;> first | rfl | (exfalso; omega))
  · skip
    refine RQ.seg 2 (pc' := 8) (L' := [some (.int (iI c)), some (.int (iI j))]) (st' := [.int (iI 1), .int (iI j)]) (g1 := g) rfl ?_
    refine RQ.if2 (a := j) (b := 1) rfl rfl rfl rfl (by omega) (by omega) (fun (h4 : j = 1) => ?_) (fun (h4 : ¬ j = 1) => ?_)
    · skip
      refine RQ.seg 2 (pc' := 31) (L' := [some (.int (iI c)), some (.int (iI j))]) (st' := [.int (iI 1)]) (g1 := g) rfl ?_
      refine RQ.ret rfl rfl ?_
      first | (exfalso; omega) | (refine ⟨?_, rfl⟩; congr 3; rcases (show j = 0 ∨ j = 1 ∨ j = 2 by omega) with rfl | rfl | rfl <;> first | rfl | (exfalso; omega))
    · skip
      refine RQ.seg 2 (pc' := 13) (L' := [some (.int (iI c)), some (.int (iI j))]) (st' := [.int (iI 3), .int (iI j)]) (g1 := g) rfl ?_
      refine RQ.if2 (a := j) (b := 3) rfl rfl rfl rfl (by omega) (by omega) (fun (h5 : j = 3) => ?_) (fun (h5 : ¬ j = 3) => ?_)
      · skip
        refine RQ.seg 2 (pc' := 31) (L' := [some (.int (iI c)), some (.int (iI j))]) (st' := [.int (iI 1)]) (g1 := g) rfl ?_
        refine RQ.ret rfl rfl ?_
        first | (exfalso; omega) | (refine ⟨?_, rfl⟩; congr 3; rcases (show j = 0 ∨ j = 1 ∨ j = 2 by omega) with rfl | rfl | rfl <;> first | rfl | (exfalso; omega))
      · skip
        refine RQ.seg 2 (pc' := 19) (L' := [some (.int (iI c)), some (.int (iI j))]) (st' := [.int (iI 98), .int (iI c)]) (g1 := g) rfl ?_
        refine RQ.if2 (a := c) (b := 98) rfl rfl rfl rfl (by omega) (by omega) (fun (h6 : c ≠ 98) => ?_) (fun (h6 : ¬ c ≠ 98) => ?_)
        · skip
          refine RQ.seg 1 (pc' := 31) (L' := [some (.int (iI c)), some (.int (iI j))]) (st' := [.int (iI 0)]) (g1 := g) rfl ?_
          refine RQ.ret rfl rfl ?_
          first | (exfalso; omega) | (refine ⟨?_, rfl⟩; congr 3; rcases (show j = 0 ∨ j = 1 ∨ j = 2 by omega) with rfl | rfl | rfl <;> first | rfl | (exfalso; omega))
        · skip
          refine RQ.seg 1 (pc' := 23) (L' := [some (.int (iI c)), some (.int (iI j))]) (st' := [.int (iI j)]) (g1 := g) rfl ?_
          refine RQ.if1 (a := j) rfl rfl rfl (by omega) (fun (h7 : j ≤ 0) => ?_) (fun (h7 : ¬ j ≤ 0) => ?_)
          · skip
            refine RQ.seg 1 (pc' := 31) (L' := [some (.int (iI c)), some (.int (iI j))]) (st' := [.int (iI 0)]) (g1 := g) rfl ?_
            refine RQ.ret rfl rfl ?_
            first | (exfalso; omega) | (refine ⟨?_, rfl⟩; congr 3; rcases (show j = 0 ∨ j = 1 ∨ j = 2 by omega) with rfl | rfl | rfl <;> first | rfl | (exfalso; omega))
          · skip
            refine RQ.seg 2 (pc' := 31) (L' := [some (.int (iI c)), some (.int (iI j))]) (st' := [.int (iI 1)]) (g1 := g) rfl ?_
            refine RQ.ret rfl rfl ?_
            first | (exfalso; omega) | (refine ⟨?_, rfl⟩; congr 3; rcases (show j = 0 ∨ j = 1 ∨ j = 2 by omega) with rfl | rfl | rfl <;> first | rfl | (exfalso; omega))
theorem m_most_b {K : PK} {d : Nat} {g : PG} {c j : Int} (hc : c = 98) (hj : 0 ≤ j ∧ j < 3) : CallR K (d + 1) 178 [.int (iI c), .int (iI j)] g (some (.int (iI (kc10 j)))) g := by
  apply CQ.x
  refine CQ.of (own := 11) (n := 2) (ini := false) (rt := (some .int)) (cd := cd178) (by decide +kernel) rfl (by decide +kernel) rfl (Nat.le_of_ble_eq_true rfl) ?_
  refine RQ.seg 2 (pc' := 3) (L' := [some (.int (iI c)), some (.int (iI j))]) (st' := [.int (iI 119), .int (iI c)]) (g1 := g) rfl ?_
  refine RQ.if2 (a := c) (b := 119) rfl rfl rfl rfl (by omega) (by omega) (fun (h1 : c ≠ 119) => ?_) (fun (h1 : ¬ c ≠ 119) => ?_)
  · skip
    refine RQ.seg 2 (pc' := 30) (L' := [some (.int (iI c)), some (.int (iI j))]) (st' := [.int (iI 98), .int (iI c)]) (g1 := g) rfl ?_
    refine RQ.if2 (a := c) (b := 98) rfl rfl rfl rfl (by omega) (by omega) (fun (h2 : c ≠ 98) => ?_) (fun (h2 : ¬ c ≠ 98) => ?_)
    · skip
      refine RQ.seg 2 (pc' := 56) (L' := [some (.int (iI c)), some (.int (iI j))]) (st' := [.int (iI 3), .int (iI j)]) (g1 := g) rfl ?_
      refine RQ.if2 (a := j) (b := 3) rfl rfl rfl rfl (by omega) (by omega) (fun (h3 : j ≠ 3) => ?_) (fun (h3 : ¬ j ≠ 3) => ?_)
      · skip
        refine RQ.seg 1 (pc' := 65) (L' := [some (.int (iI c)), some (.int (iI j))]) (st' := [.int (iI 99)]) (g1 := g) rfl ?_
        refine RQ.ret rfl rfl ?_
        first | (exfalso; omega) | (refine ⟨?_, rfl⟩; congr 3; rcases (show j = 0 ∨ j = 1 ∨ j = 2 by omega) with rfl | rfl | rfl <;> first | rfl | (exfalso; omega))
      · skip
        refine RQ.seg 2 (pc' := 65) (L' := [some (.int (iI c)), some (.int (iI j))]) (st' := [.int (iI 2)]) (g1 := g) rfl ?_
        refine RQ.ret rfl rfl ?_
        first | (exfalso; omega) | (refine ⟨?_, rfl⟩; congr 3; rcases (show j = 0 ∨ j = 1 ∨ j = 2 by omega) with rfl | rfl | rfl <;> first | rfl | (exfalso; omega))
    · skip
      refine RQ.seg 1 (pc' := 34) (L' := [some (.int (iI c)), some (.int (iI j))]) (st' := [.int (iI j)]) (g1 := g) rfl ?_
      refine RQ.if1 (a := j) rfl rfl rfl (by omega) (fun (h4 : j ≠ 0) => ?_) (fun (h4 : ¬ j ≠ 0) => ?_)
      · skip
        refine RQ.seg 2 (pc' := 44) (L' := [some (.int (iI c)), some (.int (iI j))]) (st' := [.int (iI 1), .int (iI j)]) (g1 := g) rfl ?_
        refine RQ.if2 (a := j) (b := 1) rfl rfl rfl rfl (by omega) (by omega) (fun (h5 : j ≠ 1) => ?_) (fun (h5 : ¬ j ≠ 1) => ?_)
        · skip
          refine RQ.seg 1 (pc' := 53) (L' := [some (.int (iI c)), some (.int (iI j))]) (st' := [.int (iI 5)]) (g1 := g) rfl ?_
          refine RQ.ret rfl rfl ?_
          first | (exfalso; omega) | (refine ⟨?_, rfl⟩; congr 3; rcases (show j = 0 ∨ j = 1 ∨ j = 2 by omega) with rfl | rfl | rfl <;> first | rfl | (exfalso; omega))
        · skip
          refine RQ.seg 2 (pc' := 53) (L' := [some (.int (iI c)), some (.int (iI j))]) (st' := [.int (iI 12)]) (g1 := g) rfl ?_
          refine RQ.ret rfl rfl ?_
          first | (exfalso; omega) | (refine ⟨?_, rfl⟩; congr 3; rcases (show j = 0 ∨ j = 1 ∨ j = 2 by omega) with rfl | rfl | rfl <;> first | rfl | (exfalso; omega))
      · skip
        refine RQ.seg 2 (pc' := 53) (L' := [some (.int (iI c)), some (.int (iI j))]) (st' := [.int (iI 30)]) (g1 := g) rfl ?_
        refine RQ.ret rfl rfl ?_
        first | (exfalso; omega) | (refine ⟨?_, rfl⟩; congr 3; rcases (show j = 0 ∨ j = 1 ∨ j = 2 by omega) with rfl | rfl | rfl <;> first | rfl | (exfalso; omega))
  · skip
    refine RQ.seg 1 (pc' := 7) (L' := [some (.int (iI c)), some (.int (iI j))]) (st' := [.int (iI j)]) (g1 := g) rfl ?_
    refine RQ.if1 (a := j) rfl rfl rfl (by omega) (fun (h6 : j ≠ 0) => ?_) (fun (h6 : ¬ j ≠ 0) => ?_)
    · skip
      refine RQ.seg 2 (pc' := 16) (L' := [some (.int (iI c)), some (.int (iI j))]) (st' := [.int (iI 3), .int (iI j)]) (g1 := g) rfl ?_
      refine RQ.if2 (a := j) (b := 3) rfl rfl rfl rfl (by omega) (by omega) (fun (h7 : j ≠ 3) => ?_) (fun (h7 : ¬ j ≠ 3) => ?_)
      · skip
        refine RQ.seg 1 (pc' := 26) (L' := [some (.int (iI c)), some (.int (iI j))]) (st' := [.int (iI 9)]) (g1 := g) rfl ?_
        refine RQ.ret rfl rfl ?_
        first | (exfalso; omega) | (refine ⟨?_, rfl⟩; congr 3; rcases (show j = 0 ∨ j = 1 ∨ j = 2 by omega) with rfl | rfl | rfl <;> first | rfl | (exfalso; omega))
      · skip
        refine RQ.seg 2 (pc' := 26) (L' := [some (.int (iI c)), some (.int (iI j))]) (st' := [.int (iI 60)]) (g1 := g) rfl ?_
        refine RQ.ret rfl rfl ?_
        first | (exfalso; omega) | (refine ⟨?_, rfl⟩; congr 3; rcases (show j = 0 ∨ j = 1 ∨ j = 2 by omega) with rfl | rfl | rfl <;> first | rfl | (exfalso; omega))
    · skip
      refine RQ.seg 2 (pc' := 26) (L' := [some (.int (iI c)), some (.int (iI j))]) (st' := [.int (iI 5)]) (g1 := g) rfl ?_
      refine RQ.ret rfl rfl ?_
      first | (exfalso; omega) | (refine ⟨?_, rfl⟩; congr 3; rcases (show j = 0 ∨ j = 1 ∨ j = 2 by omega) with rfl | rfl | rfl <;> first | rfl | (exfalso; omega))
theorem m_usual_l {K : PK} {d : Nat} {g : PG} {c j : Int} (hc : c = 108) (hj : 0 ≤ j ∧ j < 4) : CallR K (d + 1) 176 [.int (iI c), .int (iI j)] g (some (.int (iI (kc4 j)))) g := by
  apply CQ.x
  refine CQ.of (own := 11) (n := 2) (ini := false) (rt := (some .int)) (cd := cd176) (by decide +kernel) rfl (by decide +kernel) rfl (Nat.le_of_ble_eq_true rfl) ?_
  refine RQ.seg 2 (pc' := 3) (L' := [some (.int (iI c)), some (.int (iI j))]) (st' := [.int (iI 119), .int (iI c)]) (g1 := g) rfl ?_
  refine RQ.if2 (a := c) (b := 119) rfl rfl rfl rfl (by omega) (by omega) (fun (h1 : c ≠ 119) => ?_) (fun (h1 : ¬ c ≠ 119) => ?_)
  · skip
    refine RQ.seg 2 (pc' := 38) (L' := [some (.int (iI c)), some (.int (iI j))]) (st' := [.int (iI 98), .int (iI c)]) (g1 := g) rfl ?_
    refine RQ.if2 (a := c) (b := 98) rfl rfl rfl rfl (by omega) (by omega) (fun (h2 : c ≠ 98) => ?_) (fun (h2 : ¬ c ≠ 98) => ?_)
    · skip
      refine RQ.seg 1 (pc' := 62) (L' := [some (.int (iI c)), some (.int (iI j))]) (st' := [.int (iI j)]) (g1 := g) rfl ?_
      refine RQ.if1 (a := j) rfl rfl rfl (by omega) (fun (h3 : j ≠ 0) => ?_) (fun (h3 : ¬ j ≠ 0) => ?_)
      · skip
        refine RQ.seg 1 (pc' := 71) (L' := [some (.int (iI c)), some (.int (iI j))]) (st' := [.int (iI 0)]) (g1 := g) rfl ?_
        refine RQ.ret rfl rfl ?_
        first | (exfalso; omega) | (refine ⟨?_, rfl⟩; congr 3; rcases (show j = 0 ∨ j = 1 ∨ j = 2 ∨ j = 3 by omega) with rfl | rfl | rfl | rfl <;> first | rfl | (exfalso; omega))
      · skip
        refine RQ.seg 2 (pc' := 71) (L' := [some (.int (iI c)), some (.int (iI j))]) (st' := [.int (iI 10)]) (g1 := g) rfl ?_
        refine RQ.ret rfl rfl ?_
        first | (exfalso; omega) | (refine ⟨?_, rfl⟩; congr 3; rcases (show j = 0 ∨ j = 1 ∨ j = 2 ∨ j = 3 by omega) with rfl | rfl | rfl | rfl <;> first | rfl | (exfalso; omega))
    · skip
      refine RQ.seg 1 (pc' := 42) (L' := [some (.int (iI c)), some (.int (iI j))]) (st' := [.int (iI j)]) (g1 := g) rfl ?_
      refine RQ.if1 (a := j) rfl rfl rfl (by omega) (fun (h4 : j ≠ 0) => ?_) (fun (h4 : ¬ j ≠ 0) => ?_)
      · skip
        refine RQ.seg 2 (pc' := 51) (L' := [some (.int (iI c)), some (.int (iI j))]) (st' := [.int (iI 1), .int (iI j)]) (g1 := g) rfl ?_
        refine RQ.if2 (a := j) (b := 1) rfl rfl rfl rfl (by omega) (by omega) (fun (h5 : j ≠ 1) => ?_) (fun (h5 : ¬ j ≠ 1) => ?_)
        · skip
          refine RQ.seg 1 (pc' := 60) (L' := [some (.int (iI c)), some (.int (iI j))]) (st' := [.int (iI 1)]) (g1 := g) rfl ?_
          refine RQ.ret rfl rfl ?_
          first | (exfalso; omega) | (refine ⟨?_, rfl⟩; congr 3; rcases (show j = 0 ∨ j = 1 ∨ j = 2 ∨ j = 3 by omega) with rfl | rfl | rfl | rfl <;> first | rfl | (exfalso; omega))
        · skip
          refine RQ.seg 2 (pc' := 60) (L' := [some (.int (iI c)), some (.int (iI j))]) (st' := [.int (iI 6)]) (g1 := g) rfl ?_
          refine RQ.ret rfl rfl ?_
          first | (exfalso; omega) | (refine ⟨?_, rfl⟩; congr 3; rcases (show j = 0 ∨ j = 1 ∨ j = 2 ∨ j = 3 by omega) with rfl | rfl | rfl | rfl <;> first | rfl | (exfalso; omega))
      · skip
        refine RQ.seg 2 (pc' := 60) (L' := [some (.int (iI c)), some (.int (iI j))]) (st' := [.int (iI 0)]) (g1 := g) rfl ?_
        refine RQ.ret rfl rfl ?_
        first | (exfalso; omega) | (refine ⟨?_, rfl⟩; congr 3; rcases (show j = 0 ∨ j = 1 ∨ j = 2 ∨ j = 3 by omega) with rfl | rfl | rfl | rfl <;> first | rfl | (exfalso; omega))
  · skip
    refine RQ.seg 1 (pc' := 7) (L' := [some (.int (iI c)), some (.int (iI j))]) (st' := [.int (iI j)]) (g1 := g) rfl ?_
    refine RQ.if1 (a := j) rfl rfl rfl (by omega) (fun (h6 : j ≠ 0) => ?_) (fun (h6 : ¬ j ≠ 0) => ?_)
    · skip
      refine RQ.seg 2 (pc' := 16) (L' := [some (.int (iI c)), some (.int (iI j))]) (st' := [.int (iI 1), .int (iI j)]) (g1 := g) rfl ?_
      refine RQ.if2 (a := j) (b := 1) rfl rfl rfl rfl (by omega) (by omega) (fun (h7 : j ≠ 1) => ?_) (fun (h7 : ¬ j ≠ 1) => ?_)
      · skip
        refine RQ.seg 2 (pc' := 25) (L' := [some (.int (iI c)), some (.int (iI j))]) (st' := [.int (iI 2), .int (iI j)]) (g1 := g) rfl ?_
        refine RQ.if2 (a := j) (b := 2) rfl rfl rfl rfl (by omega) (by omega) (fun (h8 : j ≠ 2) => ?_) (fun (h8 : ¬ j ≠ 2) => ?_)
        · skip
          refine RQ.seg 1 (pc' := 34) (L' := [some (.int (iI c)), some (.int (iI j))]) (st' := [.int (iI 30)]) (g1 := g) rfl ?_
          refine RQ.ret rfl rfl ?_
          first | (exfalso; omega) | (refine ⟨?_, rfl⟩; congr 3; rcases (show j = 0 ∨ j = 1 ∨ j = 2 ∨ j = 3 by omega) with rfl | rfl | rfl | rfl <;> first | rfl | (exfalso; omega))
        · skip
          refine RQ.seg 2 (pc' := 34) (L' := [some (.int (iI c)), some (.int (iI j))]) (st' := [.int (iI 1)]) (g1 := g) rfl ?_
          refine RQ.ret rfl rfl ?_
          first | (exfalso; omega) | (refine ⟨?_, rfl⟩; congr 3; rcases (show j = 0 ∨ j = 1 ∨ j = 2 ∨ j = 3 by omega) with rfl | rfl | rfl | rfl <;> first | rfl | (exfalso; omega))
      · skip
        refine RQ.seg 2 (pc' := 34) (L' := [some (.int (iI c)), some (.int (iI j))]) (st' := [.int (iI 3)]) (g1 := g) rfl ?_
        refine RQ.ret rfl rfl ?_
        first | (exfalso; omega) | (refine ⟨?_, rfl⟩; congr 3; rcases (show j = 0 ∨ j = 1 ∨ j = 2 ∨ j = 3 by omega) with rfl | rfl | rfl | rfl <;> first | rfl | (exfalso; omega))
    · skip
      refine RQ.seg 2 (pc' := 34) (L' := [some (.int (iI c)), some (.int (iI j))]) (st' := [.int (iI 0)]) (g1 := g) rfl ?_
      refine RQ.ret rfl rfl ?_
      first | (exfalso; omega) | (refine ⟨?_, rfl⟩; congr 3; rcases (show j = 0 ∨ j = 1 ∨ j = 2 ∨ j = 3 by omega) with rfl | rfl | rfl | rfl <;> first | rfl | (exfalso; omega))
theorem m_least_l {K : PK} {d : Nat} {g : PG} {c j : Int} (hc : c = 108) (hj : 0 ≤ j ∧ j < 4) : CallR K (d + 1) 177 [.int (iI c), .int (iI j)] g (some (.int (iI (kc11 j)))) g := by
  apply CQ.x
  refine CQ.of (own := 11) (n := 2) (ini := false) (rt := (some .int)) (cd := cd177) (by decide +kernel) rfl (by decide +kernel) rfl (Nat.le_of_ble_eq_true rfl) ?_
  refine RQ.seg 2 (pc' := 3) (L' := [some (.int (iI c)), some (.int (iI j))]) (st' := [.int (iI 119), .int (iI c)]) (g1 := g) rfl ?_
  refine RQ.if2 (a := c) (b := 119) rfl rfl rfl rfl (by omega) (by omega) (fun (h1 : c ≠ 119) => ?_) (fun (h1 : ¬ c ≠ 119) => ?_)
  · skip
    refine RQ.seg 2 (pc' := 19) (L' := [some (.int (iI c)), some (.int (iI j))]) (st' := [.int (iI 98), .int (iI c)]) (g1 := g) rfl ?_
    refine RQ.if2 (a := c) (b := 98) rfl rfl rfl rfl (by omega) (by omega) (fun (h2 : c ≠ 98) => ?_) (fun (h2 : ¬ c ≠ 98) => ?_)
    · skip
      refine RQ.seg 1 (pc' := 31) (L' := [some (.int (iI c)), some (.int (iI j))]) (st' := [.int (iI 0)]) (g1 := g) rfl ?_
      refine RQ.ret rfl rfl ?_
      first | (exfalso; omega) | (refine ⟨?_, rfl⟩; congr 3; rcases (show j = 0 ∨ j = 1 ∨ j = 2 ∨ j = 3 by omega) with rfl | rfl | rfl | rfl <;> first | rfl | (exfalso; omega))
    · skip
      refine RQ.seg 1 (pc' := 23) (L' := [some (.int (iI c)), some (.int (iI j))]) (st' := [.int (iI j)]) (g1 := g) rfl ?_
      refine RQ.if1 (a := j) rfl rfl rfl (by omega) (fun (h3 : j ≤ 0) => ?_) (fun (h3 : ¬ j ≤ 0) => ?_)
      · skip
        refine RQ.seg 1 (pc' := 31) (L' := [some (.int (iI c)), some (.int (iI j))]) (st' := [.int (iI 0)]) (g1 := g) rfl ?_
        refine RQ.ret rfl rfl ?_
        first | (exfalso; omega) | (refine ⟨?_, rfl⟩; congr 3; rcases (show j = 0 ∨ j = 1 ∨ j = 2 ∨ j = 3 by omega) with rfl | rfl | rfl | rfl <;> first | rfl | (exfalso; omega))
      · skip
        refine RQ.seg 2 (pc' := 31) (L' := [some (.int (iI c)), some (.int (iI j))]) (st' := [.int (iI 1)]) (g1 := g) rfl ?_
        refine RQ.ret rfl rfl ?_
        first | (exfalso; omega) | (refine ⟨?_, rfl⟩; congr 3; rcases (show j = 0 ∨ j = 1 ∨ j = 2 ∨ j = 3 by omega) with rfl | rfl | rfl | rfl <;> first | rfl | (exfalso; omega))
  · skip
    refine RQ.seg 2 (pc' := 8) (L' := [some (.int (iI c)), some (.int (iI j))]) (st' := [.int (iI 1), .int (iI j)]) (g1 := g) rfl ?_
    refine RQ.if2 (a := j) (b := 1) rfl rfl rfl rfl (by omega) (by omega) (fun (h4 : j = 1) => ?_) (fun (h4 : ¬ j = 1) => ?_)
    · skip
      refine RQ.seg 2 (pc' := 31) (L' := [some (.int (iI c)), some (.int (iI j))]) (st' := [.int (iI 1)]) (g1 := g) rfl ?_
      refine RQ.ret rfl rfl ?_
      first | (exfalso; omega) | (refine ⟨?_, rfl⟩; congr 3; rcases (show j = 0 ∨ j = 1 ∨ j = 2 ∨ j = 3 by omega) with rfl | rfl | rfl | rfl <;> first | rfl | (exfalso; omega))
    · skip
      refine RQ.seg 2 (pc' := 13) (L' := [some (.int (iI c)), some (.int (iI j))]) (st' := [.int (iI 3), .int (iI j)]) (g1 := g) rfl ?_
      refine RQ.if2 (a := j) (b := 3) rfl rfl rfl rfl (by omega) (by omega) (fun (h5 : j = 3) => ?_) (fun (h5 : ¬ j = 3) => ?_)
      · skip
        refine RQ.seg 2 (pc' := 31) (L' := [some (.int (iI c)), some (.int (iI j))]) (st' := [.int (iI 1)]) (g1 := g) rfl ?_
        refine RQ.ret rfl rfl ?_
        first | (exfalso; omega) | (refine ⟨?_, rfl⟩; congr 3; rcases (show j = 0 ∨ j = 1 ∨ j = 2 ∨ j = 3 by omega) with rfl | rfl | rfl | rfl <;> first | rfl | (exfalso; omega))
      · skip
        refine RQ.seg 2 (pc' := 19) (L' := [some (.int (iI c)), some (.int (iI j))]) (st' := [.int (iI 98), .int (iI c)]) (g1 := g) rfl ?_
        refine RQ.if2 (a := c) (b := 98) rfl rfl rfl rfl (by omega) (by omega) (fun (h6 : c ≠ 98) => ?_) (fun (h6 : ¬ c ≠ 98) => ?_)
        · skip
          refine RQ.seg 1 (pc' := 31) (L' := [some (.int (iI c)), some (.int (iI j))]) (st' := [.int (iI 0)]) (g1 := g) rfl ?_
          refine RQ.ret rfl rfl ?_
          first | (exfalso; omega) | (refine ⟨?_, rfl⟩; congr 3; rcases (show j = 0 ∨ j = 1 ∨ j = 2 ∨ j = 3 by omega) with rfl | rfl | rfl | rfl <;> first | rfl | (exfalso; omega))
        · skip
          refine RQ.seg 1 (pc' := 23) (L' := [some (.int (iI c)), some (.int (iI j))]) (st' := [.int (iI j)]) (g1 := g) rfl ?_
          refine RQ.if1 (a := j) rfl rfl rfl (by omega) (fun (h7 : j ≤ 0) => ?_) (fun (h7 : ¬ j ≤ 0) => ?_)
          · skip
            refine RQ.seg 1 (pc' := 31) (L' := [some (.int (iI c)), some (.int (iI j))]) (st' := [.int (iI 0)]) (g1 := g) rfl ?_
            refine RQ.ret rfl rfl ?_
            first | (exfalso; omega) | (refine ⟨?_, rfl⟩; congr 3; rcases (show j = 0 ∨ j = 1 ∨ j = 2 ∨ j = 3 by omega) with rfl | rfl | rfl | rfl <;> first | rfl | (exfalso; omega))
          · skip
            refine RQ.seg 2 (pc' := 31) (L' := [some (.int (iI c)), some (.int (iI j))]) (st' := [.int (iI 1)]) (g1 := g) rfl ?_
            refine RQ.ret rfl rfl ?_
            first | (exfalso; omega) | (refine ⟨?_, rfl⟩; congr 3; rcases (show j = 0 ∨ j = 1 ∨ j = 2 ∨ j = 3 by omega) with rfl | rfl | rfl | rfl <;> first | rfl | (exfalso; omega))
theorem m_most_l {K : PK} {d : Nat} {g : PG} {c j : Int} (hc : c = 108) (hj : 0 ≤ j ∧ j < 4) : CallR K (d + 1) 178 [.int (iI c), .int (iI j)] g (some (.int (iI (kc12 j)))) g := by
  apply CQ.x
  refine CQ.of (own := 11) (n := 2) (ini := false) (rt := (some .int)) (cd := cd178) (by decide +kernel) rfl (by decide +kernel) rfl (Nat.le_of_ble_eq_true rfl) ?_
  refine RQ.seg 2 (pc' := 3) (L' := [some (.int (iI c)), some (.int (iI j))]) (st' := [.int (iI 119), .int (iI c)]) (g1 := g) rfl ?_
  refine RQ.if2 (a := c) (b := 119) rfl rfl rfl rfl (by omega) (by omega) (fun (h1 : c ≠ 119) => ?_) (fun (h1 : ¬ c ≠ 119) => ?_)
  · skip
    refine RQ.seg 2 (pc' := 30) (L' := [some (.int (iI c)), some (.int (iI j))]) (st' := [.int (iI 98), .int (iI c)]) (g1 := g) rfl ?_
    refine RQ.if2 (a := c) (b := 98) rfl rfl rfl rfl (by omega) (by omega) (fun (h2 : c ≠ 98) => ?_) (fun (h2 : ¬ c ≠ 98) => ?_)
    · skip
      refine RQ.seg 2 (pc' := 56) (L' := [some (.int (iI c)), some (.int (iI j))]) (st' := [.int (iI 3), .int (iI j)]) (g1 := g) rfl ?_
      refine RQ.if2 (a := j) (b := 3) rfl rfl rfl rfl (by omega) (by omega) (fun (h3 : j ≠ 3) => ?_) (fun (h3 : ¬ j ≠ 3) => ?_)
      · skip
        refine RQ.seg 1 (pc' := 65) (L' := [some (.int (iI c)), some (.int (iI j))]) (st' := [.int (iI 99)]) (g1 := g) rfl ?_
        refine RQ.ret rfl rfl ?_
        first | (exfalso; omega) | (refine ⟨?_, rfl⟩; congr 3; rcases (show j = 0 ∨ j = 1 ∨ j = 2 ∨ j = 3 by omega) with rfl | rfl | rfl | rfl <;> first | rfl | (exfalso; omega))
      · skip
        refine RQ.seg 2 (pc' := 65) (L' := [some (.int (iI c)), some (.int (iI j))]) (st' := [.int (iI 2)]) (g1 := g) rfl ?_
        refine RQ.ret rfl rfl ?_
        first | (exfalso; omega) | (refine ⟨?_, rfl⟩; congr 3; rcases (show j = 0 ∨ j = 1 ∨ j = 2 ∨ j = 3 by omega) with rfl | rfl | rfl | rfl <;> first | rfl | (exfalso; omega))
    · skip
      refine RQ.seg 1 (pc' := 34) (L' := [some (.int (iI c)), some (.int (iI j))]) (st' := [.int (iI j)]) (g1 := g) rfl ?_
      refine RQ.if1 (a := j) rfl rfl rfl (by omega) (fun (h4 : j ≠ 0) => ?_) (fun (h4 : ¬ j ≠ 0) => ?_)
      · skip
        refine RQ.seg 2 (pc' := 44) (L' := [some (.int (iI c)), some (.int (iI j))]) (st' := [.int (iI 1), .int (iI j)]) (g1 := g) rfl ?_
        refine RQ.if2 (a := j) (b := 1) rfl rfl rfl rfl (by omega) (by omega) (fun (h5 : j ≠ 1) => ?_) (fun (h5 : ¬ j ≠ 1) => ?_)
        · skip
          refine RQ.seg 1 (pc' := 53) (L' := [some (.int (iI c)), some (.int (iI j))]) (st' := [.int (iI 5)]) (g1 := g) rfl ?_
          refine RQ.ret rfl rfl ?_
          first | (exfalso; omega) | (refine ⟨?_, rfl⟩; congr 3; rcases (show j = 0 ∨ j = 1 ∨ j = 2 ∨ j = 3 by omega) with rfl | rfl | rfl | rfl <;> first | rfl | (exfalso; omega))
        · skip
          refine RQ.seg 2 (pc' := 53) (L' := [some (.int (iI c)), some (.int (iI j))]) (st' := [.int (iI 12)]) (g1 := g) rfl ?_
          refine RQ.ret rfl rfl ?_
          first | (exfalso; omega) | (refine ⟨?_, rfl⟩; congr 3; rcases (show j = 0 ∨ j = 1 ∨ j = 2 ∨ j = 3 by omega) with rfl | rfl | rfl | rfl <;> first | rfl | (exfalso; omega))
      · skip
        refine RQ.seg 2 (pc' := 53) (L' := [some (.int (iI c)), some (.int (iI j))]) (st' := [.int (iI 30)]) (g1 := g) rfl ?_
        refine RQ.ret rfl rfl ?_
        first | (exfalso; omega) | (refine ⟨?_, rfl⟩; congr 3; rcases (show j = 0 ∨ j = 1 ∨ j = 2 ∨ j = 3 by omega) with rfl | rfl | rfl | rfl <;> first | rfl | (exfalso; omega))
  · skip
    refine RQ.seg 1 (pc' := 7) (L' := [some (.int (iI c)), some (.int (iI j))]) (st' := [.int (iI j)]) (g1 := g) rfl ?_
    refine RQ.if1 (a := j) rfl rfl rfl (by omega) (fun (h6 : j ≠ 0) => ?_) (fun (h6 : ¬ j ≠ 0) => ?_)
    · skip
      refine RQ.seg 2 (pc' := 16) (L' := [some (.int (iI c)), some (.int (iI j))]) (st' := [.int (iI 3), .int (iI j)]) (g1 := g) rfl ?_
      refine RQ.if2 (a := j) (b := 3) rfl rfl rfl rfl (by omega) (by omega) (fun (h7 : j ≠ 3) => ?_) (fun (h7 : ¬ j ≠ 3) => ?_)
      · skip
        refine RQ.seg 1 (pc' := 26) (L' := [some (.int (iI c)), some (.int (iI j))]) (st' := [.int (iI 9)]) (g1 := g) rfl ?_
        refine RQ.ret rfl rfl ?_
        first | (exfalso; omega) | (refine ⟨?_, rfl⟩; congr 3; rcases (show j = 0 ∨ j = 1 ∨ j = 2 ∨ j = 3 by omega) with rfl | rfl | rfl | rfl <;> first | rfl | (exfalso; omega))
      · skip
        refine RQ.seg 2 (pc' := 26) (L' := [some (.int (iI c)), some (.int (iI j))]) (st' := [.int (iI 60)]) (g1 := g) rfl ?_
        refine RQ.ret rfl rfl ?_
        first | (exfalso; omega) | (refine ⟨?_, rfl⟩; congr 3; rcases (show j = 0 ∨ j = 1 ∨ j = 2 ∨ j = 3 by omega) with rfl | rfl | rfl | rfl <;> first | rfl | (exfalso; omega))
    · skip
      refine RQ.seg 2 (pc' := 26) (L' := [some (.int (iI c)), some (.int (iI j))]) (st' := [.int (iI 5)]) (g1 := g) rfl ?_
      refine RQ.ret rfl rfl ?_
      first | (exfalso; omega) | (refine ⟨?_, rfl⟩; congr 3; rcases (show j = 0 ∨ j = 1 ∨ j = 2 ∨ j = 3 by omega) with rfl | rfl | rfl | rfl <;> first | rfl | (exfalso; omega))
theorem m_item88 {K : PK} {d : Nat} {sc : Nat → Int} {ar : Nat → Int → Int} {oc : Nat} {rl : Nat → Option Nat} {ou : Nat → Int64} {tl : List PO} {q : Nat × Nat} {tp : List Int} {bg : Int} (ht : TpOK tp) (hv : TvM tp bg 160 (sc 8008) (sc 8009) (ar 81)) {a pl0 lo hi : Int} (ha : sc 8010 = a) (hr : 0 ≤ a ∧ a < (tp.length : Int)) (hf0 : sc 8011 = -1) (hpl : 0 ≤ pl0 ∧ pl0 < 16) (hlo : 0 ≤ lo ∧ lo ≤ 99) (hhi : 0 ≤ hi ∧ hi ≤ 99) : CQ K (d + 3) 179 [.ref 80, .ref 88, .int (iI pl0), .int (iI lo), .int (iI hi)] (HW sc ar 81 oc rl ou tl, q) (fun r g' => r = none ∧ ∃ a' f', g' = (HW (usc (usc sc 8010 a') 8011 (itR tp lo hi (a + 1)).1) (usc ar 88 f') 81 oc rl ou tl, q) ∧ (0 ≤ a' ∧ a' ≤ (tp.length : Int)) ∧ ((itR tp lo hi (a + 1)).1 = -1 → a' = (itR tp lo hi (a + 1)).2.2 ∧ f' = usz (ar 88) pl0 (itR tp lo hi (a + 1)).2.1) ∧ ((itR tp lo hi (a + 1)).1 ≠ -1 → f' = ar 88)) := by
  have ht1 := ht.1
  obtain ⟨hv1, hv2, hv3, hv4⟩ := id hv
  have hsk := sk_r (tp := tp) (p := a + 1) (by omega)
  have hlr := tch_r ht (sk tp (a + 1))
  have hlk : 0 ≤ lk tp (a + 1) ∧ lk tp (a + 1) ≤ 255 := hlr
  have hlm := lkm_r hlk
  have hcc : lk tp (a + 1) = tch tp (sk tp (a + 1)) := rfl
  refine CQ.of (own := 11) (n := 7) (ini := false) (rt := none) (cd := cd179) (by decide +kernel) rfl (by decide +kernel) rfl (Nat.le_of_ble_eq_true rfl) ?_
  refine RQ.seg 3 (pc' := 5) (L' := [some (.ref 80), some (.ref 88), some (.int (iI pl0)), some (.int (iI lo)), some (.int (iI hi)), none, none]) (st' := [.int (iI (sc 8010)), .ref 80]) (g1 := (HW sc ar 81 oc rl ou tl, q)) rfl ?_
  refine RQ.to (L' := [some (.ref 80), some (.ref 88), some (.int (iI pl0)), some (.int (iI lo)), some (.int (iI hi)), none, none]) (st' := [.int (iI a), .ref 80]) rfl (by rw [show sc 8010 = a from ha]) ?_
  refine RQ.seg 2 (pc' := 7) (L' := [some (.ref 80), some (.ref 88), some (.int (iI pl0)), some (.int (iI lo)), some (.int (iI hi)), none, none]) (st' := [.int ((iI a) + (iI 1)), .ref 80]) (g1 := (HW sc ar 81 oc rl ou tl, q)) rfl ?_
  refine RQ.to (L' := [some (.ref 80), some (.ref 88), some (.int (iI pl0)), some (.int (iI lo)), some (.int (iI hi)), none, none]) (st' := [.int (iI (a + 1)), .ref 80]) rfl (by simp only [iI_add, iI_sub, iI_mul, iI_neg]) ?_
  refine RQ.seg 2 (pc' := 11) (L' := [some (.ref 80), some (.ref 88), some (.int (iI pl0)), some (.int (iI lo)), some (.int (iI hi)), none, none]) (st' := [.ref 80]) (g1 := (HW (usc sc 8010 (a + 1)) ar 81 oc rl ou tl, q)) rfl ?_
  refine RQ.call rfl rfl (CallR.up (d := 1) (m_look81 (d := 0) (sc := usc sc 8010 (a + 1)) (ar := ar) (a := a + 1) ht hv rfl (by omega)) (by omega)) ?_
  refine RQ.hp (g1 := (HW (usc sc 8010 (sk tp (a + 1))) ar 81 oc rl ou tl, q)) (HW_e (by rw [usc_uu _ 8010 _ _]; try rfl) rfl) ?_
  refine RQ.seg 2 (pc' := 17) (L' := [some (.ref 80), some (.ref 88), some (.int (iI pl0)), some (.int (iI lo)), some (.int (iI hi)), some (.int (iI (lkm (lk tp (a + 1))))), none]) (st' := [.ref 80]) (g1 := (HW (usc sc 8010 (sk tp (a + 1))) ar 81 oc rl ou tl, q)) rfl ?_
  rcases Decidable.em (dig (tch tp (sk tp (a + 1)))) with hd1 | hd1
  · skip
    refine RQ.call rfl rfl (CallR.up (d := 1) (m_dig81t (d := 0) (sc := usc sc 8010 (sk tp (a + 1))) (ar := ar) (a := sk tp (a + 1)) ht hv rfl (by omega) hd1) (by omega)) ?_
    have hp1 := tch_pos (tp := tp) (p := sk tp (a + 1)) (by omega)
    refine RQ.seg 10 (pc' := 43) (L' := [some (.ref 80), some (.ref 88), some (.int (iI pl0)), some (.int (iI lo)), some (.int (iI hi)), some (.int (iI (lkm (lk tp (a + 1))))), some (.int ((iI (lkm (lk tp (a + 1)))) - (iI 48)))]) (st' := [.int ((iI (sk tp (a + 1))) + (iI 1)), .ref 80]) (g1 := (HW (usc sc 8010 (sk tp (a + 1))) ar 81 oc rl ou tl, q)) rfl ?_
    refine RQ.to (L' := [some (.ref 80), some (.ref 88), some (.int (iI pl0)), some (.int (iI lo)), some (.int (iI hi)), some (.int (iI (lkm (lk tp (a + 1))))), some (.int (iI (lkm (lk tp (a + 1)) - 48)))]) (st' := [.int (iI (sk tp (a + 1) + 1)), .ref 80]) (by simp only [iI_add, iI_sub, iI_mul, iI_neg]) (by simp only [iI_add, iI_sub, iI_mul, iI_neg]) ?_
    refine RQ.seg 2 (pc' := 47) (L' := [some (.ref 80), some (.ref 88), some (.int (iI pl0)), some (.int (iI lo)), some (.int (iI hi)), some (.int (iI (lkm (lk tp (a + 1))))), some (.int (iI (lkm (lk tp (a + 1)) - 48)))]) (st' := [.ref 80]) (g1 := (HW (usc sc 8010 (sk tp (a + 1) + 1)) ar 81 oc rl ou tl, q)) rfl ?_
    rcases Decidable.em (dig (tch tp (sk tp (a + 1) + 1))) with hd2 | hd2
    · skip
      refine RQ.call rfl rfl (CallR.up (d := 1) (m_dig81t (d := 0) (sc := usc sc 8010 (sk tp (a + 1) + 1)) (ar := ar) (a := sk tp (a + 1) + 1) ht hv rfl (by omega) hd2) (by omega)) ?_
      have hp2 := tch_pos (tp := tp) (p := sk tp (a + 1) + 1) (by omega)
      refine RQ.seg 5 (pc' := 59) (L' := [some (.ref 80), some (.ref 88), some (.int (iI pl0)), some (.int (iI lo)), some (.int (iI hi)), some (.int (iI (lkm (lk tp (a + 1))))), some (.int (iI (lkm (lk tp (a + 1)) - 48)))]) (st' := [.ref 80, .int ((iI 10) * (iI (lkm (lk tp (a + 1)) - 48)))]) (g1 := (HW (usc sc 8010 (sk tp (a + 1) + 1)) ar 81 oc rl ou tl, q)) rfl ?_
      refine RQ.to (L' := [some (.ref 80), some (.ref 88), some (.int (iI pl0)), some (.int (iI lo)), some (.int (iI hi)), some (.int (iI (lkm (lk tp (a + 1))))), some (.int (iI (lkm (lk tp (a + 1)) - 48)))]) (st' := [.ref 80, .int (iI (10 * (lkm (lk tp (a + 1)) - 48)))]) rfl (by simp only [iI_add, iI_sub, iI_mul, iI_neg]) ?_
      refine RQ.call rfl rfl (CallR.up (d := 1) (m_here81 (d := 0) (sc := usc sc 8010 (sk tp (a + 1) + 1)) (ar := ar) (a := sk tp (a + 1) + 1) ht hv rfl (by omega)) (by omega)) ?_
      rw [lkm_n (c := tch tp (sk tp (a + 1) + 1)) (by omega)]
      refine RQ.seg 9 (pc' := 75) (L' := [some (.ref 80), some (.ref 88), some (.int (iI pl0)), some (.int (iI lo)), some (.int (iI hi)), some (.int (iI (lkm (lk tp (a + 1))))), some (.int (((iI (10 * (lkm (lk tp (a + 1)) - 48))) + (iI (tch tp (sk tp (a + 1) + 1)))) - (iI 48)))]) (st' := [.int ((iI (sk tp (a + 1) + 1)) + (iI 1)), .ref 80]) (g1 := (HW (usc sc 8010 (sk tp (a + 1) + 1)) ar 81 oc rl ou tl, q)) rfl ?_
      refine RQ.to (L' := [some (.ref 80), some (.ref 88), some (.int (iI pl0)), some (.int (iI lo)), some (.int (iI hi)), some (.int (iI (lkm (lk tp (a + 1))))), some (.int (iI (10 * (lkm (lk tp (a + 1)) - 48) + (tch tp (sk tp (a + 1) + 1)) - 48)))]) (st' := [.int (iI (sk tp (a + 1) + 1 + 1)), .ref 80]) (by simp only [iI_add, iI_sub, iI_mul, iI_neg]) (by simp only [iI_add, iI_sub, iI_mul, iI_neg]) ?_
      refine RQ.seg 2 (pc' := 79) (L' := [some (.ref 80), some (.ref 88), some (.int (iI pl0)), some (.int (iI lo)), some (.int (iI hi)), some (.int (iI (lkm (lk tp (a + 1))))), some (.int (iI (10 * (lkm (lk tp (a + 1)) - 48) + (tch tp (sk tp (a + 1) + 1)) - 48)))]) (st' := [.ref 80]) (g1 := (HW (usc sc 8010 (sk tp (a + 1) + 1 + 1)) ar 81 oc rl ou tl, q)) rfl ?_
      rcases Decidable.em (dig (tch tp (sk tp (a + 1) + 1 + 1))) with hd3 | hd3
      · skip
        refine RQ.call rfl rfl (CallR.up (d := 1) (m_dig81t (d := 0) (sc := usc sc 8010 (sk tp (a + 1) + 1 + 1)) (ar := ar) (a := sk tp (a + 1) + 1 + 1) ht hv rfl (by omega) hd3) (by omega)) ?_
        have hp3 := tch_pos (tp := tp) (p := sk tp (a + 1) + 1 + 1) (by omega)
        refine RQ.seg 2 (pc' := 86) (L' := [some (.ref 80), some (.ref 88), some (.int (iI pl0)), some (.int (iI lo)), some (.int (iI hi)), some (.int (iI (lkm (lk tp (a + 1))))), some (.int (iI (10 * (lkm (lk tp (a + 1)) - 48) + (tch tp (sk tp (a + 1) + 1)) - 48)))]) (st' := [.ref 80]) (g1 := (HW (usc sc 8010 (sk tp (a + 1) + 1 + 1)) ar 81 oc rl ou tl, q)) rfl ?_
        have hcall := CallR.up (d' := d + 2) (m_fails (K := K) (d := 0) (tx := 81) (oc := oc) (rl := rl) (ou := ou) (tl := tl) (q := q) (sc := usc sc 8010 (sk tp (a + 1) + 1 + 1)) (ar := ar) (by show -1 ≤ sc 8011 ∧ sc 8011 ≤ 200; omega)) (by omega)
        rw [show (if (usc sc 8010 (sk tp (a + 1) + 1 + 1)) 8011 = -1 then (usc sc 8010 (sk tp (a + 1) + 1 + 1)) 8010 else (usc sc 8010 (sk tp (a + 1) + 1 + 1)) 8011) = sk tp (a + 1) + 1 + 1 from if_pos hf0] at hcall
        refine RQ.call rfl rfl hcall ?_
        refine RQ.seg 1 (pc' := 90) (L' := [some (.ref 80), some (.ref 88), some (.int (iI pl0)), some (.int (iI lo)), some (.int (iI hi)), some (.int (iI (lkm (lk tp (a + 1))))), some (.int (iI (10 * (lkm (lk tp (a + 1)) - 48) + (tch tp (sk tp (a + 1) + 1)) - 48)))]) (st' := []) (g1 := (HW (usc (usc sc 8010 (sk tp (a + 1) + 1 + 1)) 8011 (sk tp (a + 1) + 1 + 1)) ar 81 oc rl ou tl, q)) rfl ?_
        refine RQ.ret rfl rfl ?_
        have em : nmn tp 2 (sk tp (a + 1)) 0 = ((tch tp (sk tp (a + 1)) - 48) * 10 + (tch tp (sk tp (a + 1) + 1) - 48), sk tp (a + 1) + 2) := by rw [nmn_2 hd1]; exact if_pos hd2
        have e11 : sk tp (a + 1) + 1 + 1 = sk tp (a + 1) + 2 := by omega
        rw [e11] at hd3
        have en : nmR tp 2 (a + 1) = (sk tp (a + 1) + 2, (tch tp (sk tp (a + 1)) - 48) * 10 + (tch tp (sk tp (a + 1) + 1) - 48), sk tp (a + 1) + 2) := by unfold nmR; rw [if_pos (show dig (tch tp (sk tp (a + 1))) from hd1), em]; dsimp only; rw [if_pos hd3]
        have ei : itR tp lo hi (a + 1) = (sk tp (a + 1) + 2, (tch tp (sk tp (a + 1)) - 48) * 10 + (tch tp (sk tp (a + 1) + 1) - 48), sk tp (a + 1) + 2) := by rw [itR_n (by rw [en]; show sk tp (a + 1) + 2 ≠ -1; omega), en]
        rw [ei]
        refine ⟨rfl, sk tp (a + 1) + 1 + 1, ar 88, ?_, ⟨by omega, by omega⟩, fun z => absurd z (by dsimp only; omega), fun _ => rfl⟩
        exact HW_e (by first | rfl | (dsimp only; congr 1; done) | (dsimp only; congr 1; omega) | (dsimp only; congr 2; done) | (dsimp only; congr 2; omega)) (usc_id ar 88).symm
      · skip
        refine RQ.call rfl rfl (CallR.up (d := 1) (m_dig81f (d := 0) (sc := usc sc 8010 (sk tp (a + 1) + 1 + 1)) (ar := ar) (a := sk tp (a + 1) + 1 + 1) ht hv rfl (by omega) hd3) (by omega)) ?_
        refine RQ.seg 2 (pc' := 93) (L' := [some (.ref 80), some (.ref 88), some (.int (iI pl0)), some (.int (iI lo)), some (.int (iI hi)), some (.int (iI (lkm (lk tp (a + 1))))), some (.int (iI (10 * (lkm (lk tp (a + 1)) - 48) + (tch tp (sk tp (a + 1) + 1)) - 48)))]) (st' := [.int (iI (10 * (lkm (lk tp (a + 1)) - 48) + (tch tp (sk tp (a + 1) + 1)) - 48))]) (g1 := (HW (usc sc 8010 (sk tp (a + 1) + 1 + 1)) ar 81 oc rl ou tl, q)) rfl ?_
        refine RQ.seg 1 (pc' := 94) (L' := [some (.ref 80), some (.ref 88), some (.int (iI pl0)), some (.int (iI lo)), some (.int (iI hi)), some (.int (iI (lkm (lk tp (a + 1))))), some (.int (iI (10 * (lkm (lk tp (a + 1)) - 48) + (tch tp (sk tp (a + 1) + 1)) - 48)))]) (st' := [.long ((iI (10 * (lkm (lk tp (a + 1)) - 48) + (tch tp (sk tp (a + 1) + 1)) - 48)).toInt64)]) (g1 := (HW (usc sc 8010 (sk tp (a + 1) + 1 + 1)) ar 81 oc rl ou tl, q)) rfl ?_
        refine RQ.to (L' := [some (.ref 80), some (.ref 88), some (.int (iI pl0)), some (.int (iI lo)), some (.int (iI hi)), some (.int (iI (lkm (lk tp (a + 1))))), some (.int (iI (10 * (lkm (lk tp (a + 1)) - 48) + (tch tp (sk tp (a + 1) + 1)) - 48)))]) (st' := [.long (lL (10 * (lkm (lk tp (a + 1)) - 48) + (tch tp (sk tp (a + 1) + 1)) - 48))]) rfl (by rw [iI_64 (by omega)]) ?_
        refine RQ.seg 1 (pc' := 95) (L' := [some (.ref 80), some (.ref 88), some (.int (iI pl0)), some (.int (iI lo)), some (.int (iI hi)), some (.int (iI (lkm (lk tp (a + 1))))), some (.int (iI (10 * (lkm (lk tp (a + 1)) - 48) + (tch tp (sk tp (a + 1) + 1)) - 48)))]) (st' := [.int (iI lo), .long (lL (10 * (lkm (lk tp (a + 1)) - 48) + (tch tp (sk tp (a + 1) + 1)) - 48))]) (g1 := (HW (usc sc 8010 (sk tp (a + 1) + 1 + 1)) ar 81 oc rl ou tl, q)) rfl ?_
        refine RQ.seg 1 (pc' := 96) (L' := [some (.ref 80), some (.ref 88), some (.int (iI pl0)), some (.int (iI lo)), some (.int (iI hi)), some (.int (iI (lkm (lk tp (a + 1))))), some (.int (iI (10 * (lkm (lk tp (a + 1)) - 48) + (tch tp (sk tp (a + 1) + 1)) - 48)))]) (st' := [.long ((iI lo).toInt64), .long (lL (10 * (lkm (lk tp (a + 1)) - 48) + (tch tp (sk tp (a + 1) + 1)) - 48))]) (g1 := (HW (usc sc 8010 (sk tp (a + 1) + 1 + 1)) ar 81 oc rl ou tl, q)) rfl ?_
        refine RQ.to (L' := [some (.ref 80), some (.ref 88), some (.int (iI pl0)), some (.int (iI lo)), some (.int (iI hi)), some (.int (iI (lkm (lk tp (a + 1))))), some (.int (iI (10 * (lkm (lk tp (a + 1)) - 48) + (tch tp (sk tp (a + 1) + 1)) - 48)))]) (st' := [.long (lL lo), .long (lL (10 * (lkm (lk tp (a + 1)) - 48) + (tch tp (sk tp (a + 1) + 1)) - 48))]) rfl (by rw [iI_64 (by omega)]) ?_
        refine RQ.seg 1 (pc' := 98) (L' := [some (.ref 80), some (.ref 88), some (.int (iI pl0)), some (.int (iI lo)), some (.int (iI hi)), some (.int (iI (lkm (lk tp (a + 1))))), some (.int (iI (10 * (lkm (lk tp (a + 1)) - 48) + (tch tp (sk tp (a + 1) + 1)) - 48)))]) (st' := [.int (iI hi), .long (lL lo), .long (lL (10 * (lkm (lk tp (a + 1)) - 48) + (tch tp (sk tp (a + 1) + 1)) - 48))]) (g1 := (HW (usc sc 8010 (sk tp (a + 1) + 1 + 1)) ar 81 oc rl ou tl, q)) rfl ?_
        refine RQ.seg 1 (pc' := 99) (L' := [some (.ref 80), some (.ref 88), some (.int (iI pl0)), some (.int (iI lo)), some (.int (iI hi)), some (.int (iI (lkm (lk tp (a + 1))))), some (.int (iI (10 * (lkm (lk tp (a + 1)) - 48) + (tch tp (sk tp (a + 1) + 1)) - 48)))]) (st' := [.long ((iI hi).toInt64), .long (lL lo), .long (lL (10 * (lkm (lk tp (a + 1)) - 48) + (tch tp (sk tp (a + 1) + 1)) - 48))]) (g1 := (HW (usc sc 8010 (sk tp (a + 1) + 1 + 1)) ar 81 oc rl ou tl, q)) rfl ?_
        refine RQ.to (L' := [some (.ref 80), some (.ref 88), some (.int (iI pl0)), some (.int (iI lo)), some (.int (iI hi)), some (.int (iI (lkm (lk tp (a + 1))))), some (.int (iI (10 * (lkm (lk tp (a + 1)) - 48) + (tch tp (sk tp (a + 1) + 1)) - 48)))]) (st' := [.long (lL hi), .long (lL lo), .long (lL (10 * (lkm (lk tp (a + 1)) - 48) + (tch tp (sk tp (a + 1) + 1)) - 48))]) rfl (by rw [iI_64 (by omega)]) ?_
        rcases Decidable.em (lo ≤ 10 * (lkm (lk tp (a + 1)) - 48) + (tch tp (sk tp (a + 1) + 1)) - 48 ∧ 10 * (lkm (lk tp (a + 1)) - 48) + (tch tp (sk tp (a + 1) + 1)) - 48 ≤ hi) with hin | hin
        · skip
          refine RQ.call rfl rfl (CallR.up (d := 1) (m_isIn_t (d := 0) (by omega) (by omega) (by omega) hin) (by omega)) ?_
          refine RQ.seg 4 (pc' := 125) (L' := [some (.ref 80), some (.ref 88), some (.int (iI pl0)), some (.int (iI lo)), some (.int (iI hi)), some (.int (iI (lkm (lk tp (a + 1))))), some (.int (iI (10 * (lkm (lk tp (a + 1)) - 48) + (tch tp (sk tp (a + 1) + 1)) - 48)))]) (st' := [.int (iI (10 * (lkm (lk tp (a + 1)) - 48) + (tch tp (sk tp (a + 1) + 1)) - 48)), .int (iI pl0), .ref 88]) (g1 := (HW (usc sc 8010 (sk tp (a + 1) + 1 + 1)) ar 81 oc rl ou tl, q)) rfl ?_
          refine RQ.iast (z := pl0) (v := (10 * (lkm (lk tp (a + 1)) - 48) + (tch tp (sk tp (a + 1) + 1)) - 48)) (g1 := (HW (usc sc 8010 (sk tp (a + 1) + 1 + 1)) (usc ar 88 (usz (ar 88) pl0 (10 * (lkm (lk tp (a + 1)) - 48) + (tch tp (sk tp (a + 1) + 1)) - 48))) 81 oc rl ou tl, q)) rfl rfl rfl rfl (by omega) (by decide) (HWa_88 rfl) ?_
          refine RQ.ret rfl rfl ?_
          have em : nmn tp 2 (sk tp (a + 1)) 0 = ((tch tp (sk tp (a + 1)) - 48) * 10 + (tch tp (sk tp (a + 1) + 1) - 48), sk tp (a + 1) + 2) := by rw [nmn_2 hd1]; exact if_pos hd2
          have e11 : sk tp (a + 1) + 1 + 1 = sk tp (a + 1) + 2 := by omega
          rw [e11] at hd3
          have en : nmR tp 2 (a + 1) = (-1, (tch tp (sk tp (a + 1)) - 48) * 10 + (tch tp (sk tp (a + 1) + 1) - 48), sk tp (a + 1) + 2) := by unfold nmR; rw [if_pos (show dig (tch tp (sk tp (a + 1))) from hd1), em]; dsimp only; rw [if_neg hd3]
          have ei : itR tp lo hi (a + 1) = (-1, (tch tp (sk tp (a + 1)) - 48) * 10 + (tch tp (sk tp (a + 1) + 1) - 48), sk tp (a + 1) + 2) := by rw [itR_g (by rw [en]) (by rw [en]; dsimp only; omega), en]
          rw [ei]
          have hw9 : (usc sc 8010 (sk tp (a + 1) + 1 + 1)) 8011 = -1 := hf0
          refine ⟨rfl, sk tp (a + 1) + 1 + 1, _, (HW_e (show usc sc 8010 (sk tp (a + 1) + 1 + 1) = usc (usc sc 8010 (sk tp (a + 1) + 1 + 1)) 8011 (-1) by rw [← hw9]; exact (usc_id _ 8011).symm) rfl), ⟨by omega, by omega⟩, fun _ => ?_, fun z => absurd rfl z⟩
          refine ⟨by first | rfl | (dsimp only; omega), ?_⟩
          first | rfl | (dsimp only; congr 1; omega)
        · skip
          refine RQ.call rfl rfl (CallR.up (d := 1) (m_isIn_f (d := 0) (by omega) (by omega) (by omega) hin) (by omega)) ?_
          refine RQ.seg 6 (pc' := 112) (L' := [some (.ref 80), some (.ref 88), some (.int (iI pl0)), some (.int (iI lo)), some (.int (iI hi)), some (.int (iI (lkm (lk tp (a + 1))))), some (.int (iI (10 * (lkm (lk tp (a + 1)) - 48) + (tch tp (sk tp (a + 1) + 1)) - 48)))]) (st' := [.int ((iI (sk tp (a + 1) + 1 + 1)) - (iI 1)), .ref 80]) (g1 := (HW (usc sc 8010 (sk tp (a + 1) + 1 + 1)) ar 81 oc rl ou tl, q)) rfl ?_
          refine RQ.to (L' := [some (.ref 80), some (.ref 88), some (.int (iI pl0)), some (.int (iI lo)), some (.int (iI hi)), some (.int (iI (lkm (lk tp (a + 1))))), some (.int (iI (10 * (lkm (lk tp (a + 1)) - 48) + (tch tp (sk tp (a + 1) + 1)) - 48)))]) (st' := [.int (iI (sk tp (a + 1) + 1 + 1 - 1)), .ref 80]) rfl (by simp only [iI_add, iI_sub, iI_mul, iI_neg]) ?_
          refine RQ.seg 2 (pc' := 116) (L' := [some (.ref 80), some (.ref 88), some (.int (iI pl0)), some (.int (iI lo)), some (.int (iI hi)), some (.int (iI (lkm (lk tp (a + 1))))), some (.int (iI (10 * (lkm (lk tp (a + 1)) - 48) + (tch tp (sk tp (a + 1) + 1)) - 48)))]) (st' := [.ref 80]) (g1 := (HW (usc sc 8010 (sk tp (a + 1) + 1 + 1 - 1)) ar 81 oc rl ou tl, q)) rfl ?_
          have hcall := CallR.up (d' := d + 2) (m_fails (K := K) (d := 0) (tx := 81) (oc := oc) (rl := rl) (ou := ou) (tl := tl) (q := q) (sc := usc sc 8010 (sk tp (a + 1) + 1 + 1 - 1)) (ar := ar) (by show -1 ≤ sc 8011 ∧ sc 8011 ≤ 200; omega)) (by omega)
          rw [show (if (usc sc 8010 (sk tp (a + 1) + 1 + 1 - 1)) 8011 = -1 then (usc sc 8010 (sk tp (a + 1) + 1 + 1 - 1)) 8010 else (usc sc 8010 (sk tp (a + 1) + 1 + 1 - 1)) 8011) = sk tp (a + 1) + 1 + 1 - 1 from if_pos hf0] at hcall
          refine RQ.call rfl rfl hcall ?_
          refine RQ.seg 1 (pc' := 120) (L' := [some (.ref 80), some (.ref 88), some (.int (iI pl0)), some (.int (iI lo)), some (.int (iI hi)), some (.int (iI (lkm (lk tp (a + 1))))), some (.int (iI (10 * (lkm (lk tp (a + 1)) - 48) + (tch tp (sk tp (a + 1) + 1)) - 48)))]) (st' := []) (g1 := (HW (usc (usc sc 8010 (sk tp (a + 1) + 1 + 1 - 1)) 8011 (sk tp (a + 1) + 1 + 1 - 1)) ar 81 oc rl ou tl, q)) rfl ?_
          refine RQ.ret rfl rfl ?_
          have em : nmn tp 2 (sk tp (a + 1)) 0 = ((tch tp (sk tp (a + 1)) - 48) * 10 + (tch tp (sk tp (a + 1) + 1) - 48), sk tp (a + 1) + 2) := by rw [nmn_2 hd1]; exact if_pos hd2
          have e11 : sk tp (a + 1) + 1 + 1 = sk tp (a + 1) + 2 := by omega
          rw [e11] at hd3
          have en : nmR tp 2 (a + 1) = (-1, (tch tp (sk tp (a + 1)) - 48) * 10 + (tch tp (sk tp (a + 1) + 1) - 48), sk tp (a + 1) + 2) := by unfold nmR; rw [if_pos (show dig (tch tp (sk tp (a + 1))) from hd1), em]; dsimp only; rw [if_neg hd3]
          have ei : itR tp lo hi (a + 1) = (sk tp (a + 1) + 2 - 1, (tch tp (sk tp (a + 1)) - 48) * 10 + (tch tp (sk tp (a + 1) + 1) - 48), sk tp (a + 1) + 2) := by rw [itR_o (by rw [en]) (by rw [en]; dsimp only; omega), en]
          rw [ei]
          refine ⟨rfl, sk tp (a + 1) + 1 + 1 - 1, ar 88, ?_, ⟨by omega, by omega⟩, fun z => absurd z (by dsimp only; omega), fun _ => rfl⟩
          exact HW_e (by first | rfl | (dsimp only; congr 1; done) | (dsimp only; congr 1; omega) | (dsimp only; congr 2; done) | (dsimp only; congr 2; omega)) (usc_id ar 88).symm
    · skip
      refine RQ.call rfl rfl (CallR.up (d := 1) (m_dig81f (d := 0) (sc := usc sc 8010 (sk tp (a + 1) + 1)) (ar := ar) (a := sk tp (a + 1) + 1) ht hv rfl (by omega) hd2) (by omega)) ?_
      refine RQ.seg 2 (pc' := 79) (L' := [some (.ref 80), some (.ref 88), some (.int (iI pl0)), some (.int (iI lo)), some (.int (iI hi)), some (.int (iI (lkm (lk tp (a + 1))))), some (.int (iI (lkm (lk tp (a + 1)) - 48)))]) (st' := [.ref 80]) (g1 := (HW (usc sc 8010 (sk tp (a + 1) + 1)) ar 81 oc rl ou tl, q)) rfl ?_
      rcases Decidable.em (dig (tch tp (sk tp (a + 1) + 1))) with hd3 | hd3
      · skip
        refine RQ.call rfl rfl (CallR.up (d := 1) (m_dig81t (d := 0) (sc := usc sc 8010 (sk tp (a + 1) + 1)) (ar := ar) (a := sk tp (a + 1) + 1) ht hv rfl (by omega) hd3) (by omega)) ?_
        have hp3 := tch_pos (tp := tp) (p := sk tp (a + 1) + 1) (by omega)
        refine RQ.seg 2 (pc' := 86) (L' := [some (.ref 80), some (.ref 88), some (.int (iI pl0)), some (.int (iI lo)), some (.int (iI hi)), some (.int (iI (lkm (lk tp (a + 1))))), some (.int (iI (lkm (lk tp (a + 1)) - 48)))]) (st' := [.ref 80]) (g1 := (HW (usc sc 8010 (sk tp (a + 1) + 1)) ar 81 oc rl ou tl, q)) rfl ?_
        have hcall := CallR.up (d' := d + 2) (m_fails (K := K) (d := 0) (tx := 81) (oc := oc) (rl := rl) (ou := ou) (tl := tl) (q := q) (sc := usc sc 8010 (sk tp (a + 1) + 1)) (ar := ar) (by show -1 ≤ sc 8011 ∧ sc 8011 ≤ 200; omega)) (by omega)
        rw [show (if (usc sc 8010 (sk tp (a + 1) + 1)) 8011 = -1 then (usc sc 8010 (sk tp (a + 1) + 1)) 8010 else (usc sc 8010 (sk tp (a + 1) + 1)) 8011) = sk tp (a + 1) + 1 from if_pos hf0] at hcall
        refine RQ.call rfl rfl hcall ?_
        refine RQ.seg 1 (pc' := 90) (L' := [some (.ref 80), some (.ref 88), some (.int (iI pl0)), some (.int (iI lo)), some (.int (iI hi)), some (.int (iI (lkm (lk tp (a + 1))))), some (.int (iI (lkm (lk tp (a + 1)) - 48)))]) (st' := []) (g1 := (HW (usc (usc sc 8010 (sk tp (a + 1) + 1)) 8011 (sk tp (a + 1) + 1)) ar 81 oc rl ou tl, q)) rfl ?_
        refine RQ.ret rfl rfl ?_
        have em : nmn tp 2 (sk tp (a + 1)) 0 = (tch tp (sk tp (a + 1)) - 48, sk tp (a + 1) + 1) := by rw [nmn_2 hd1]; exact if_neg hd2
        have en : nmR tp 2 (a + 1) = (sk tp (a + 1) + 1, tch tp (sk tp (a + 1)) - 48, sk tp (a + 1) + 1) := by unfold nmR; rw [if_pos (show dig (tch tp (sk tp (a + 1))) from hd1), em]; dsimp only; rw [if_pos hd3]
        have ei : itR tp lo hi (a + 1) = (sk tp (a + 1) + 1, tch tp (sk tp (a + 1)) - 48, sk tp (a + 1) + 1) := by rw [itR_n (by rw [en]; show sk tp (a + 1) + 1 ≠ -1; omega), en]
        rw [ei]
        refine ⟨rfl, sk tp (a + 1) + 1, ar 88, ?_, ⟨by omega, by omega⟩, fun z => absurd z (by dsimp only; omega), fun _ => rfl⟩
        exact HW_e (by first | rfl | (dsimp only; congr 1; done) | (dsimp only; congr 1; omega) | (dsimp only; congr 2; done) | (dsimp only; congr 2; omega)) (usc_id ar 88).symm
      · skip
        refine RQ.call rfl rfl (CallR.up (d := 1) (m_dig81f (d := 0) (sc := usc sc 8010 (sk tp (a + 1) + 1)) (ar := ar) (a := sk tp (a + 1) + 1) ht hv rfl (by omega) hd3) (by omega)) ?_
        refine RQ.seg 2 (pc' := 93) (L' := [some (.ref 80), some (.ref 88), some (.int (iI pl0)), some (.int (iI lo)), some (.int (iI hi)), some (.int (iI (lkm (lk tp (a + 1))))), some (.int (iI (lkm (lk tp (a + 1)) - 48)))]) (st' := [.int (iI (lkm (lk tp (a + 1)) - 48))]) (g1 := (HW (usc sc 8010 (sk tp (a + 1) + 1)) ar 81 oc rl ou tl, q)) rfl ?_
        refine RQ.seg 1 (pc' := 94) (L' := [some (.ref 80), some (.ref 88), some (.int (iI pl0)), some (.int (iI lo)), some (.int (iI hi)), some (.int (iI (lkm (lk tp (a + 1))))), some (.int (iI (lkm (lk tp (a + 1)) - 48)))]) (st' := [.long ((iI (lkm (lk tp (a + 1)) - 48)).toInt64)]) (g1 := (HW (usc sc 8010 (sk tp (a + 1) + 1)) ar 81 oc rl ou tl, q)) rfl ?_
        refine RQ.to (L' := [some (.ref 80), some (.ref 88), some (.int (iI pl0)), some (.int (iI lo)), some (.int (iI hi)), some (.int (iI (lkm (lk tp (a + 1))))), some (.int (iI (lkm (lk tp (a + 1)) - 48)))]) (st' := [.long (lL (lkm (lk tp (a + 1)) - 48))]) rfl (by rw [iI_64 (by omega)]) ?_
        refine RQ.seg 1 (pc' := 95) (L' := [some (.ref 80), some (.ref 88), some (.int (iI pl0)), some (.int (iI lo)), some (.int (iI hi)), some (.int (iI (lkm (lk tp (a + 1))))), some (.int (iI (lkm (lk tp (a + 1)) - 48)))]) (st' := [.int (iI lo), .long (lL (lkm (lk tp (a + 1)) - 48))]) (g1 := (HW (usc sc 8010 (sk tp (a + 1) + 1)) ar 81 oc rl ou tl, q)) rfl ?_
        refine RQ.seg 1 (pc' := 96) (L' := [some (.ref 80), some (.ref 88), some (.int (iI pl0)), some (.int (iI lo)), some (.int (iI hi)), some (.int (iI (lkm (lk tp (a + 1))))), some (.int (iI (lkm (lk tp (a + 1)) - 48)))]) (st' := [.long ((iI lo).toInt64), .long (lL (lkm (lk tp (a + 1)) - 48))]) (g1 := (HW (usc sc 8010 (sk tp (a + 1) + 1)) ar 81 oc rl ou tl, q)) rfl ?_
        refine RQ.to (L' := [some (.ref 80), some (.ref 88), some (.int (iI pl0)), some (.int (iI lo)), some (.int (iI hi)), some (.int (iI (lkm (lk tp (a + 1))))), some (.int (iI (lkm (lk tp (a + 1)) - 48)))]) (st' := [.long (lL lo), .long (lL (lkm (lk tp (a + 1)) - 48))]) rfl (by rw [iI_64 (by omega)]) ?_
        refine RQ.seg 1 (pc' := 98) (L' := [some (.ref 80), some (.ref 88), some (.int (iI pl0)), some (.int (iI lo)), some (.int (iI hi)), some (.int (iI (lkm (lk tp (a + 1))))), some (.int (iI (lkm (lk tp (a + 1)) - 48)))]) (st' := [.int (iI hi), .long (lL lo), .long (lL (lkm (lk tp (a + 1)) - 48))]) (g1 := (HW (usc sc 8010 (sk tp (a + 1) + 1)) ar 81 oc rl ou tl, q)) rfl ?_
        refine RQ.seg 1 (pc' := 99) (L' := [some (.ref 80), some (.ref 88), some (.int (iI pl0)), some (.int (iI lo)), some (.int (iI hi)), some (.int (iI (lkm (lk tp (a + 1))))), some (.int (iI (lkm (lk tp (a + 1)) - 48)))]) (st' := [.long ((iI hi).toInt64), .long (lL lo), .long (lL (lkm (lk tp (a + 1)) - 48))]) (g1 := (HW (usc sc 8010 (sk tp (a + 1) + 1)) ar 81 oc rl ou tl, q)) rfl ?_
        refine RQ.to (L' := [some (.ref 80), some (.ref 88), some (.int (iI pl0)), some (.int (iI lo)), some (.int (iI hi)), some (.int (iI (lkm (lk tp (a + 1))))), some (.int (iI (lkm (lk tp (a + 1)) - 48)))]) (st' := [.long (lL hi), .long (lL lo), .long (lL (lkm (lk tp (a + 1)) - 48))]) rfl (by rw [iI_64 (by omega)]) ?_
        rcases Decidable.em (lo ≤ lkm (lk tp (a + 1)) - 48 ∧ lkm (lk tp (a + 1)) - 48 ≤ hi) with hin | hin
        · skip
          refine RQ.call rfl rfl (CallR.up (d := 1) (m_isIn_t (d := 0) (by omega) (by omega) (by omega) hin) (by omega)) ?_
          refine RQ.seg 4 (pc' := 125) (L' := [some (.ref 80), some (.ref 88), some (.int (iI pl0)), some (.int (iI lo)), some (.int (iI hi)), some (.int (iI (lkm (lk tp (a + 1))))), some (.int (iI (lkm (lk tp (a + 1)) - 48)))]) (st' := [.int (iI (lkm (lk tp (a + 1)) - 48)), .int (iI pl0), .ref 88]) (g1 := (HW (usc sc 8010 (sk tp (a + 1) + 1)) ar 81 oc rl ou tl, q)) rfl ?_
          refine RQ.iast (z := pl0) (v := (lkm (lk tp (a + 1)) - 48)) (g1 := (HW (usc sc 8010 (sk tp (a + 1) + 1)) (usc ar 88 (usz (ar 88) pl0 (lkm (lk tp (a + 1)) - 48))) 81 oc rl ou tl, q)) rfl rfl rfl rfl (by omega) (by decide) (HWa_88 rfl) ?_
          refine RQ.ret rfl rfl ?_
          have em : nmn tp 2 (sk tp (a + 1)) 0 = (tch tp (sk tp (a + 1)) - 48, sk tp (a + 1) + 1) := by rw [nmn_2 hd1]; exact if_neg hd2
          have en : nmR tp 2 (a + 1) = (-1, tch tp (sk tp (a + 1)) - 48, sk tp (a + 1) + 1) := by unfold nmR; rw [if_pos (show dig (tch tp (sk tp (a + 1))) from hd1), em]; dsimp only; rw [if_neg hd3]
          have ei : itR tp lo hi (a + 1) = (-1, tch tp (sk tp (a + 1)) - 48, sk tp (a + 1) + 1) := by rw [itR_g (by rw [en]) (by rw [en]; dsimp only; omega), en]
          rw [ei]
          have hw9 : (usc sc 8010 (sk tp (a + 1) + 1)) 8011 = -1 := hf0
          refine ⟨rfl, sk tp (a + 1) + 1, _, (HW_e (show usc sc 8010 (sk tp (a + 1) + 1) = usc (usc sc 8010 (sk tp (a + 1) + 1)) 8011 (-1) by rw [← hw9]; exact (usc_id _ 8011).symm) rfl), ⟨by omega, by omega⟩, fun _ => ?_, fun z => absurd rfl z⟩
          refine ⟨by first | rfl | (dsimp only; omega), ?_⟩
          first | rfl | (dsimp only; congr 1; omega)
        · skip
          refine RQ.call rfl rfl (CallR.up (d := 1) (m_isIn_f (d := 0) (by omega) (by omega) (by omega) hin) (by omega)) ?_
          refine RQ.seg 6 (pc' := 112) (L' := [some (.ref 80), some (.ref 88), some (.int (iI pl0)), some (.int (iI lo)), some (.int (iI hi)), some (.int (iI (lkm (lk tp (a + 1))))), some (.int (iI (lkm (lk tp (a + 1)) - 48)))]) (st' := [.int ((iI (sk tp (a + 1) + 1)) - (iI 1)), .ref 80]) (g1 := (HW (usc sc 8010 (sk tp (a + 1) + 1)) ar 81 oc rl ou tl, q)) rfl ?_
          refine RQ.to (L' := [some (.ref 80), some (.ref 88), some (.int (iI pl0)), some (.int (iI lo)), some (.int (iI hi)), some (.int (iI (lkm (lk tp (a + 1))))), some (.int (iI (lkm (lk tp (a + 1)) - 48)))]) (st' := [.int (iI (sk tp (a + 1) + 1 - 1)), .ref 80]) rfl (by simp only [iI_add, iI_sub, iI_mul, iI_neg]) ?_
          refine RQ.seg 2 (pc' := 116) (L' := [some (.ref 80), some (.ref 88), some (.int (iI pl0)), some (.int (iI lo)), some (.int (iI hi)), some (.int (iI (lkm (lk tp (a + 1))))), some (.int (iI (lkm (lk tp (a + 1)) - 48)))]) (st' := [.ref 80]) (g1 := (HW (usc sc 8010 (sk tp (a + 1) + 1 - 1)) ar 81 oc rl ou tl, q)) rfl ?_
          have hcall := CallR.up (d' := d + 2) (m_fails (K := K) (d := 0) (tx := 81) (oc := oc) (rl := rl) (ou := ou) (tl := tl) (q := q) (sc := usc sc 8010 (sk tp (a + 1) + 1 - 1)) (ar := ar) (by show -1 ≤ sc 8011 ∧ sc 8011 ≤ 200; omega)) (by omega)
          rw [show (if (usc sc 8010 (sk tp (a + 1) + 1 - 1)) 8011 = -1 then (usc sc 8010 (sk tp (a + 1) + 1 - 1)) 8010 else (usc sc 8010 (sk tp (a + 1) + 1 - 1)) 8011) = sk tp (a + 1) + 1 - 1 from if_pos hf0] at hcall
          refine RQ.call rfl rfl hcall ?_
          refine RQ.seg 1 (pc' := 120) (L' := [some (.ref 80), some (.ref 88), some (.int (iI pl0)), some (.int (iI lo)), some (.int (iI hi)), some (.int (iI (lkm (lk tp (a + 1))))), some (.int (iI (lkm (lk tp (a + 1)) - 48)))]) (st' := []) (g1 := (HW (usc (usc sc 8010 (sk tp (a + 1) + 1 - 1)) 8011 (sk tp (a + 1) + 1 - 1)) ar 81 oc rl ou tl, q)) rfl ?_
          refine RQ.ret rfl rfl ?_
          have em : nmn tp 2 (sk tp (a + 1)) 0 = (tch tp (sk tp (a + 1)) - 48, sk tp (a + 1) + 1) := by rw [nmn_2 hd1]; exact if_neg hd2
          have en : nmR tp 2 (a + 1) = (-1, tch tp (sk tp (a + 1)) - 48, sk tp (a + 1) + 1) := by unfold nmR; rw [if_pos (show dig (tch tp (sk tp (a + 1))) from hd1), em]; dsimp only; rw [if_neg hd3]
          have ei : itR tp lo hi (a + 1) = (sk tp (a + 1) + 1 - 1, tch tp (sk tp (a + 1)) - 48, sk tp (a + 1) + 1) := by rw [itR_o (by rw [en]) (by rw [en]; dsimp only; omega), en]
          rw [ei]
          refine ⟨rfl, sk tp (a + 1) + 1 - 1, ar 88, ?_, ⟨by omega, by omega⟩, fun z => absurd z (by dsimp only; omega), fun _ => rfl⟩
          exact HW_e (by first | rfl | (dsimp only; congr 1; done) | (dsimp only; congr 1; omega) | (dsimp only; congr 2; done) | (dsimp only; congr 2; omega)) (usc_id ar 88).symm
  · skip
    refine RQ.call rfl rfl (CallR.up (d := 1) (m_dig81f (d := 0) (sc := usc sc 8010 (sk tp (a + 1))) (ar := ar) (a := sk tp (a + 1)) ht hv rfl (by omega) hd1) (by omega)) ?_
    refine RQ.seg 2 (pc' := 24) (L' := [some (.ref 80), some (.ref 88), some (.int (iI pl0)), some (.int (iI lo)), some (.int (iI hi)), some (.int (iI (lkm (lk tp (a + 1))))), none]) (st' := [.ref 80]) (g1 := (HW (usc sc 8010 (sk tp (a + 1))) ar 81 oc rl ou tl, q)) rfl ?_
    have hcall := CallR.up (d' := d + 2) (m_fails (K := K) (d := 0) (tx := 81) (oc := oc) (rl := rl) (ou := ou) (tl := tl) (q := q) (sc := usc sc 8010 (sk tp (a + 1))) (ar := ar) (by show -1 ≤ sc 8011 ∧ sc 8011 ≤ 200; omega)) (by omega)
    rw [show (if (usc sc 8010 (sk tp (a + 1))) 8011 = -1 then (usc sc 8010 (sk tp (a + 1))) 8010 else (usc sc 8010 (sk tp (a + 1))) 8011) = sk tp (a + 1) from if_pos hf0] at hcall
    refine RQ.call rfl rfl hcall ?_
    refine RQ.seg 1 (pc' := 28) (L' := [some (.ref 80), some (.ref 88), some (.int (iI pl0)), some (.int (iI lo)), some (.int (iI hi)), some (.int (iI (lkm (lk tp (a + 1))))), none]) (st' := []) (g1 := (HW (usc (usc sc 8010 (sk tp (a + 1))) 8011 (sk tp (a + 1))) ar 81 oc rl ou tl, q)) rfl ?_
    refine RQ.ret rfl rfl ?_
    have en : nmR tp 2 (a + 1) = (sk tp (a + 1), 0, sk tp (a + 1)) := by unfold nmR; exact if_neg hd1
    have ei : itR tp lo hi (a + 1) = (sk tp (a + 1), 0, sk tp (a + 1)) := by rw [itR_n (by rw [en]; show sk tp (a + 1) ≠ -1; omega), en]
    rw [ei]
    refine ⟨rfl, sk tp (a + 1), ar 88, ?_, ⟨by omega, by omega⟩, fun z => absurd z (by dsimp only; omega), fun _ => rfl⟩
    exact HW_e (by first | rfl | (dsimp only; congr 1; done) | (dsimp only; congr 1; omega) | (dsimp only; congr 2; done) | (dsimp only; congr 2; omega)) (usc_id ar 88).symm
theorem m_item89 {K : PK} {d : Nat} {sc : Nat → Int} {ar : Nat → Int → Int} {oc : Nat} {rl : Nat → Option Nat} {ou : Nat → Int64} {tl : List PO} {q : Nat × Nat} {tp : List Int} {bg : Int} (ht : TpOK tp) (hv : TvM tp bg 160 (sc 8008) (sc 8009) (ar 81)) {a pl0 lo hi : Int} (ha : sc 8010 = a) (hr : 0 ≤ a ∧ a < (tp.length : Int)) (hf0 : sc 8011 = -1) (hpl : 0 ≤ pl0 ∧ pl0 < 9) (hlo : 0 ≤ lo ∧ lo ≤ 99) (hhi : 0 ≤ hi ∧ hi ≤ 99) : CQ K (d + 3) 179 [.ref 80, .ref 89, .int (iI pl0), .int (iI lo), .int (iI hi)] (HW sc ar 81 oc rl ou tl, q) (fun r g' => r = none ∧ ∃ a' f', g' = (HW (usc (usc sc 8010 a') 8011 (itR tp lo hi (a + 1)).1) (usc ar 89 f') 81 oc rl ou tl, q) ∧ (0 ≤ a' ∧ a' ≤ (tp.length : Int)) ∧ ((itR tp lo hi (a + 1)).1 = -1 → a' = (itR tp lo hi (a + 1)).2.2 ∧ f' = usz (ar 89) pl0 (itR tp lo hi (a + 1)).2.1) ∧ ((itR tp lo hi (a + 1)).1 ≠ -1 → f' = ar 89)) := by
  have ht1 := ht.1
  obtain ⟨hv1, hv2, hv3, hv4⟩ := id hv
  have hsk := sk_r (tp := tp) (p := a + 1) (by omega)
  have hlr := tch_r ht (sk tp (a + 1))
  have hlk : 0 ≤ lk tp (a + 1) ∧ lk tp (a + 1) ≤ 255 := hlr
  have hlm := lkm_r hlk
  have hcc : lk tp (a + 1) = tch tp (sk tp (a + 1)) := rfl
  refine CQ.of (own := 11) (n := 7) (ini := false) (rt := none) (cd := cd179) (by decide +kernel) rfl (by decide +kernel) rfl (Nat.le_of_ble_eq_true rfl) ?_
  refine RQ.seg 3 (pc' := 5) (L' := [some (.ref 80), some (.ref 89), some (.int (iI pl0)), some (.int (iI lo)), some (.int (iI hi)), none, none]) (st' := [.int (iI (sc 8010)), .ref 80]) (g1 := (HW sc ar 81 oc rl ou tl, q)) rfl ?_
  refine RQ.to (L' := [some (.ref 80), some (.ref 89), some (.int (iI pl0)), some (.int (iI lo)), some (.int (iI hi)), none, none]) (st' := [.int (iI a), .ref 80]) rfl (by rw [show sc 8010 = a from ha]) ?_
  refine RQ.seg 2 (pc' := 7) (L' := [some (.ref 80), some (.ref 89), some (.int (iI pl0)), some (.int (iI lo)), some (.int (iI hi)), none, none]) (st' := [.int ((iI a) + (iI 1)), .ref 80]) (g1 := (HW sc ar 81 oc rl ou tl, q)) rfl ?_
  refine RQ.to (L' := [some (.ref 80), some (.ref 89), some (.int (iI pl0)), some (.int (iI lo)), some (.int (iI hi)), none, none]) (st' := [.int (iI (a + 1)), .ref 80]) rfl (by simp only [iI_add, iI_sub, iI_mul, iI_neg]) ?_
  refine RQ.seg 2 (pc' := 11) (L' := [some (.ref 80), some (.ref 89), some (.int (iI pl0)), some (.int (iI lo)), some (.int (iI hi)), none, none]) (st' := [.ref 80]) (g1 := (HW (usc sc 8010 (a + 1)) ar 81 oc rl ou tl, q)) rfl ?_
  refine RQ.call rfl rfl (CallR.up (d := 1) (m_look81 (d := 0) (sc := usc sc 8010 (a + 1)) (ar := ar) (a := a + 1) ht hv rfl (by omega)) (by omega)) ?_
  refine RQ.hp (g1 := (HW (usc sc 8010 (sk tp (a + 1))) ar 81 oc rl ou tl, q)) (HW_e (by rw [usc_uu _ 8010 _ _]; try rfl) rfl) ?_
  refine RQ.seg 2 (pc' := 17) (L' := [some (.ref 80), some (.ref 89), some (.int (iI pl0)), some (.int (iI lo)), some (.int (iI hi)), some (.int (iI (lkm (lk tp (a + 1))))), none]) (st' := [.ref 80]) (g1 := (HW (usc sc 8010 (sk tp (a + 1))) ar 81 oc rl ou tl, q)) rfl ?_
  rcases Decidable.em (dig (tch tp (sk tp (a + 1)))) with hd1 | hd1
  · skip
    refine RQ.call rfl rfl (CallR.up (d := 1) (m_dig81t (d := 0) (sc := usc sc 8010 (sk tp (a + 1))) (ar := ar) (a := sk tp (a + 1)) ht hv rfl (by omega) hd1) (by omega)) ?_
    have hp1 := tch_pos (tp := tp) (p := sk tp (a + 1)) (by omega)
    refine RQ.seg 10 (pc' := 43) (L' := [some (.ref 80), some (.ref 89), some (.int (iI pl0)), some (.int (iI lo)), some (.int (iI hi)), some (.int (iI (lkm (lk tp (a + 1))))), some (.int ((iI (lkm (lk tp (a + 1)))) - (iI 48)))]) (st' := [.int ((iI (sk tp (a + 1))) + (iI 1)), .ref 80]) (g1 := (HW (usc sc 8010 (sk tp (a + 1))) ar 81 oc rl ou tl, q)) rfl ?_
    refine RQ.to (L' := [some (.ref 80), some (.ref 89), some (.int (iI pl0)), some (.int (iI lo)), some (.int (iI hi)), some (.int (iI (lkm (lk tp (a + 1))))), some (.int (iI (lkm (lk tp (a + 1)) - 48)))]) (st' := [.int (iI (sk tp (a + 1) + 1)), .ref 80]) (by simp only [iI_add, iI_sub, iI_mul, iI_neg]) (by simp only [iI_add, iI_sub, iI_mul, iI_neg]) ?_
    refine RQ.seg 2 (pc' := 47) (L' := [some (.ref 80), some (.ref 89), some (.int (iI pl0)), some (.int (iI lo)), some (.int (iI hi)), some (.int (iI (lkm (lk tp (a + 1))))), some (.int (iI (lkm (lk tp (a + 1)) - 48)))]) (st' := [.ref 80]) (g1 := (HW (usc sc 8010 (sk tp (a + 1) + 1)) ar 81 oc rl ou tl, q)) rfl ?_
    rcases Decidable.em (dig (tch tp (sk tp (a + 1) + 1))) with hd2 | hd2
    · skip
      refine RQ.call rfl rfl (CallR.up (d := 1) (m_dig81t (d := 0) (sc := usc sc 8010 (sk tp (a + 1) + 1)) (ar := ar) (a := sk tp (a + 1) + 1) ht hv rfl (by omega) hd2) (by omega)) ?_
      have hp2 := tch_pos (tp := tp) (p := sk tp (a + 1) + 1) (by omega)
      refine RQ.seg 5 (pc' := 59) (L' := [some (.ref 80), some (.ref 89), some (.int (iI pl0)), some (.int (iI lo)), some (.int (iI hi)), some (.int (iI (lkm (lk tp (a + 1))))), some (.int (iI (lkm (lk tp (a + 1)) - 48)))]) (st' := [.ref 80, .int ((iI 10) * (iI (lkm (lk tp (a + 1)) - 48)))]) (g1 := (HW (usc sc 8010 (sk tp (a + 1) + 1)) ar 81 oc rl ou tl, q)) rfl ?_
      refine RQ.to (L' := [some (.ref 80), some (.ref 89), some (.int (iI pl0)), some (.int (iI lo)), some (.int (iI hi)), some (.int (iI (lkm (lk tp (a + 1))))), some (.int (iI (lkm (lk tp (a + 1)) - 48)))]) (st' := [.ref 80, .int (iI (10 * (lkm (lk tp (a + 1)) - 48)))]) rfl (by simp only [iI_add, iI_sub, iI_mul, iI_neg]) ?_
      refine RQ.call rfl rfl (CallR.up (d := 1) (m_here81 (d := 0) (sc := usc sc 8010 (sk tp (a + 1) + 1)) (ar := ar) (a := sk tp (a + 1) + 1) ht hv rfl (by omega)) (by omega)) ?_
      rw [lkm_n (c := tch tp (sk tp (a + 1) + 1)) (by omega)]
      refine RQ.seg 9 (pc' := 75) (L' := [some (.ref 80), some (.ref 89), some (.int (iI pl0)), some (.int (iI lo)), some (.int (iI hi)), some (.int (iI (lkm (lk tp (a + 1))))), some (.int (((iI (10 * (lkm (lk tp (a + 1)) - 48))) + (iI (tch tp (sk tp (a + 1) + 1)))) - (iI 48)))]) (st' := [.int ((iI (sk tp (a + 1) + 1)) + (iI 1)), .ref 80]) (g1 := (HW (usc sc 8010 (sk tp (a + 1) + 1)) ar 81 oc rl ou tl, q)) rfl ?_
      refine RQ.to (L' := [some (.ref 80), some (.ref 89), some (.int (iI pl0)), some (.int (iI lo)), some (.int (iI hi)), some (.int (iI (lkm (lk tp (a + 1))))), some (.int (iI (10 * (lkm (lk tp (a + 1)) - 48) + (tch tp (sk tp (a + 1) + 1)) - 48)))]) (st' := [.int (iI (sk tp (a + 1) + 1 + 1)), .ref 80]) (by simp only [iI_add, iI_sub, iI_mul, iI_neg]) (by simp only [iI_add, iI_sub, iI_mul, iI_neg]) ?_
      refine RQ.seg 2 (pc' := 79) (L' := [some (.ref 80), some (.ref 89), some (.int (iI pl0)), some (.int (iI lo)), some (.int (iI hi)), some (.int (iI (lkm (lk tp (a + 1))))), some (.int (iI (10 * (lkm (lk tp (a + 1)) - 48) + (tch tp (sk tp (a + 1) + 1)) - 48)))]) (st' := [.ref 80]) (g1 := (HW (usc sc 8010 (sk tp (a + 1) + 1 + 1)) ar 81 oc rl ou tl, q)) rfl ?_
      rcases Decidable.em (dig (tch tp (sk tp (a + 1) + 1 + 1))) with hd3 | hd3
      · skip
        refine RQ.call rfl rfl (CallR.up (d := 1) (m_dig81t (d := 0) (sc := usc sc 8010 (sk tp (a + 1) + 1 + 1)) (ar := ar) (a := sk tp (a + 1) + 1 + 1) ht hv rfl (by omega) hd3) (by omega)) ?_
        have hp3 := tch_pos (tp := tp) (p := sk tp (a + 1) + 1 + 1) (by omega)
        refine RQ.seg 2 (pc' := 86) (L' := [some (.ref 80), some (.ref 89), some (.int (iI pl0)), some (.int (iI lo)), some (.int (iI hi)), some (.int (iI (lkm (lk tp (a + 1))))), some (.int (iI (10 * (lkm (lk tp (a + 1)) - 48) + (tch tp (sk tp (a + 1) + 1)) - 48)))]) (st' := [.ref 80]) (g1 := (HW (usc sc 8010 (sk tp (a + 1) + 1 + 1)) ar 81 oc rl ou tl, q)) rfl ?_
        have hcall := CallR.up (d' := d + 2) (m_fails (K := K) (d := 0) (tx := 81) (oc := oc) (rl := rl) (ou := ou) (tl := tl) (q := q) (sc := usc sc 8010 (sk tp (a + 1) + 1 + 1)) (ar := ar) (by show -1 ≤ sc 8011 ∧ sc 8011 ≤ 200; omega)) (by omega)
        rw [show (if (usc sc 8010 (sk tp (a + 1) + 1 + 1)) 8011 = -1 then (usc sc 8010 (sk tp (a + 1) + 1 + 1)) 8010 else (usc sc 8010 (sk tp (a + 1) + 1 + 1)) 8011) = sk tp (a + 1) + 1 + 1 from if_pos hf0] at hcall
        refine RQ.call rfl rfl hcall ?_
        refine RQ.seg 1 (pc' := 90) (L' := [some (.ref 80), some (.ref 89), some (.int (iI pl0)), some (.int (iI lo)), some (.int (iI hi)), some (.int (iI (lkm (lk tp (a + 1))))), some (.int (iI (10 * (lkm (lk tp (a + 1)) - 48) + (tch tp (sk tp (a + 1) + 1)) - 48)))]) (st' := []) (g1 := (HW (usc (usc sc 8010 (sk tp (a + 1) + 1 + 1)) 8011 (sk tp (a + 1) + 1 + 1)) ar 81 oc rl ou tl, q)) rfl ?_
        refine RQ.ret rfl rfl ?_
        have em : nmn tp 2 (sk tp (a + 1)) 0 = ((tch tp (sk tp (a + 1)) - 48) * 10 + (tch tp (sk tp (a + 1) + 1) - 48), sk tp (a + 1) + 2) := by rw [nmn_2 hd1]; exact if_pos hd2
        have e11 : sk tp (a + 1) + 1 + 1 = sk tp (a + 1) + 2 := by omega
        rw [e11] at hd3
        have en : nmR tp 2 (a + 1) = (sk tp (a + 1) + 2, (tch tp (sk tp (a + 1)) - 48) * 10 + (tch tp (sk tp (a + 1) + 1) - 48), sk tp (a + 1) + 2) := by unfold nmR; rw [if_pos (show dig (tch tp (sk tp (a + 1))) from hd1), em]; dsimp only; rw [if_pos hd3]
        have ei : itR tp lo hi (a + 1) = (sk tp (a + 1) + 2, (tch tp (sk tp (a + 1)) - 48) * 10 + (tch tp (sk tp (a + 1) + 1) - 48), sk tp (a + 1) + 2) := by rw [itR_n (by rw [en]; show sk tp (a + 1) + 2 ≠ -1; omega), en]
        rw [ei]
        refine ⟨rfl, sk tp (a + 1) + 1 + 1, ar 89, ?_, ⟨by omega, by omega⟩, fun z => absurd z (by dsimp only; omega), fun _ => rfl⟩
        exact HW_e (by first | rfl | (dsimp only; congr 1; done) | (dsimp only; congr 1; omega) | (dsimp only; congr 2; done) | (dsimp only; congr 2; omega)) (usc_id ar 89).symm
      · skip
        refine RQ.call rfl rfl (CallR.up (d := 1) (m_dig81f (d := 0) (sc := usc sc 8010 (sk tp (a + 1) + 1 + 1)) (ar := ar) (a := sk tp (a + 1) + 1 + 1) ht hv rfl (by omega) hd3) (by omega)) ?_
        refine RQ.seg 2 (pc' := 93) (L' := [some (.ref 80), some (.ref 89), some (.int (iI pl0)), some (.int (iI lo)), some (.int (iI hi)), some (.int (iI (lkm (lk tp (a + 1))))), some (.int (iI (10 * (lkm (lk tp (a + 1)) - 48) + (tch tp (sk tp (a + 1) + 1)) - 48)))]) (st' := [.int (iI (10 * (lkm (lk tp (a + 1)) - 48) + (tch tp (sk tp (a + 1) + 1)) - 48))]) (g1 := (HW (usc sc 8010 (sk tp (a + 1) + 1 + 1)) ar 81 oc rl ou tl, q)) rfl ?_
        refine RQ.seg 1 (pc' := 94) (L' := [some (.ref 80), some (.ref 89), some (.int (iI pl0)), some (.int (iI lo)), some (.int (iI hi)), some (.int (iI (lkm (lk tp (a + 1))))), some (.int (iI (10 * (lkm (lk tp (a + 1)) - 48) + (tch tp (sk tp (a + 1) + 1)) - 48)))]) (st' := [.long ((iI (10 * (lkm (lk tp (a + 1)) - 48) + (tch tp (sk tp (a + 1) + 1)) - 48)).toInt64)]) (g1 := (HW (usc sc 8010 (sk tp (a + 1) + 1 + 1)) ar 81 oc rl ou tl, q)) rfl ?_
        refine RQ.to (L' := [some (.ref 80), some (.ref 89), some (.int (iI pl0)), some (.int (iI lo)), some (.int (iI hi)), some (.int (iI (lkm (lk tp (a + 1))))), some (.int (iI (10 * (lkm (lk tp (a + 1)) - 48) + (tch tp (sk tp (a + 1) + 1)) - 48)))]) (st' := [.long (lL (10 * (lkm (lk tp (a + 1)) - 48) + (tch tp (sk tp (a + 1) + 1)) - 48))]) rfl (by rw [iI_64 (by omega)]) ?_
        refine RQ.seg 1 (pc' := 95) (L' := [some (.ref 80), some (.ref 89), some (.int (iI pl0)), some (.int (iI lo)), some (.int (iI hi)), some (.int (iI (lkm (lk tp (a + 1))))), some (.int (iI (10 * (lkm (lk tp (a + 1)) - 48) + (tch tp (sk tp (a + 1) + 1)) - 48)))]) (st' := [.int (iI lo), .long (lL (10 * (lkm (lk tp (a + 1)) - 48) + (tch tp (sk tp (a + 1) + 1)) - 48))]) (g1 := (HW (usc sc 8010 (sk tp (a + 1) + 1 + 1)) ar 81 oc rl ou tl, q)) rfl ?_
        refine RQ.seg 1 (pc' := 96) (L' := [some (.ref 80), some (.ref 89), some (.int (iI pl0)), some (.int (iI lo)), some (.int (iI hi)), some (.int (iI (lkm (lk tp (a + 1))))), some (.int (iI (10 * (lkm (lk tp (a + 1)) - 48) + (tch tp (sk tp (a + 1) + 1)) - 48)))]) (st' := [.long ((iI lo).toInt64), .long (lL (10 * (lkm (lk tp (a + 1)) - 48) + (tch tp (sk tp (a + 1) + 1)) - 48))]) (g1 := (HW (usc sc 8010 (sk tp (a + 1) + 1 + 1)) ar 81 oc rl ou tl, q)) rfl ?_
        refine RQ.to (L' := [some (.ref 80), some (.ref 89), some (.int (iI pl0)), some (.int (iI lo)), some (.int (iI hi)), some (.int (iI (lkm (lk tp (a + 1))))), some (.int (iI (10 * (lkm (lk tp (a + 1)) - 48) + (tch tp (sk tp (a + 1) + 1)) - 48)))]) (st' := [.long (lL lo), .long (lL (10 * (lkm (lk tp (a + 1)) - 48) + (tch tp (sk tp (a + 1) + 1)) - 48))]) rfl (by rw [iI_64 (by omega)]) ?_
        refine RQ.seg 1 (pc' := 98) (L' := [some (.ref 80), some (.ref 89), some (.int (iI pl0)), some (.int (iI lo)), some (.int (iI hi)), some (.int (iI (lkm (lk tp (a + 1))))), some (.int (iI (10 * (lkm (lk tp (a + 1)) - 48) + (tch tp (sk tp (a + 1) + 1)) - 48)))]) (st' := [.int (iI hi), .long (lL lo), .long (lL (10 * (lkm (lk tp (a + 1)) - 48) + (tch tp (sk tp (a + 1) + 1)) - 48))]) (g1 := (HW (usc sc 8010 (sk tp (a + 1) + 1 + 1)) ar 81 oc rl ou tl, q)) rfl ?_
        refine RQ.seg 1 (pc' := 99) (L' := [some (.ref 80), some (.ref 89), some (.int (iI pl0)), some (.int (iI lo)), some (.int (iI hi)), some (.int (iI (lkm (lk tp (a + 1))))), some (.int (iI (10 * (lkm (lk tp (a + 1)) - 48) + (tch tp (sk tp (a + 1) + 1)) - 48)))]) (st' := [.long ((iI hi).toInt64), .long (lL lo), .long (lL (10 * (lkm (lk tp (a + 1)) - 48) + (tch tp (sk tp (a + 1) + 1)) - 48))]) (g1 := (HW (usc sc 8010 (sk tp (a + 1) + 1 + 1)) ar 81 oc rl ou tl, q)) rfl ?_
        refine RQ.to (L' := [some (.ref 80), some (.ref 89), some (.int (iI pl0)), some (.int (iI lo)), some (.int (iI hi)), some (.int (iI (lkm (lk tp (a + 1))))), some (.int (iI (10 * (lkm (lk tp (a + 1)) - 48) + (tch tp (sk tp (a + 1) + 1)) - 48)))]) (st' := [.long (lL hi), .long (lL lo), .long (lL (10 * (lkm (lk tp (a + 1)) - 48) + (tch tp (sk tp (a + 1) + 1)) - 48))]) rfl (by rw [iI_64 (by omega)]) ?_
        rcases Decidable.em (lo ≤ 10 * (lkm (lk tp (a + 1)) - 48) + (tch tp (sk tp (a + 1) + 1)) - 48 ∧ 10 * (lkm (lk tp (a + 1)) - 48) + (tch tp (sk tp (a + 1) + 1)) - 48 ≤ hi) with hin | hin
        · skip
          refine RQ.call rfl rfl (CallR.up (d := 1) (m_isIn_t (d := 0) (by omega) (by omega) (by omega) hin) (by omega)) ?_
          refine RQ.seg 4 (pc' := 125) (L' := [some (.ref 80), some (.ref 89), some (.int (iI pl0)), some (.int (iI lo)), some (.int (iI hi)), some (.int (iI (lkm (lk tp (a + 1))))), some (.int (iI (10 * (lkm (lk tp (a + 1)) - 48) + (tch tp (sk tp (a + 1) + 1)) - 48)))]) (st' := [.int (iI (10 * (lkm (lk tp (a + 1)) - 48) + (tch tp (sk tp (a + 1) + 1)) - 48)), .int (iI pl0), .ref 89]) (g1 := (HW (usc sc 8010 (sk tp (a + 1) + 1 + 1)) ar 81 oc rl ou tl, q)) rfl ?_
          refine RQ.iast (z := pl0) (v := (10 * (lkm (lk tp (a + 1)) - 48) + (tch tp (sk tp (a + 1) + 1)) - 48)) (g1 := (HW (usc sc 8010 (sk tp (a + 1) + 1 + 1)) (usc ar 89 (usz (ar 89) pl0 (10 * (lkm (lk tp (a + 1)) - 48) + (tch tp (sk tp (a + 1) + 1)) - 48))) 81 oc rl ou tl, q)) rfl rfl rfl rfl (by omega) (by decide) (HWa_89 rfl) ?_
          refine RQ.ret rfl rfl ?_
          have em : nmn tp 2 (sk tp (a + 1)) 0 = ((tch tp (sk tp (a + 1)) - 48) * 10 + (tch tp (sk tp (a + 1) + 1) - 48), sk tp (a + 1) + 2) := by rw [nmn_2 hd1]; exact if_pos hd2
          have e11 : sk tp (a + 1) + 1 + 1 = sk tp (a + 1) + 2 := by omega
          rw [e11] at hd3
          have en : nmR tp 2 (a + 1) = (-1, (tch tp (sk tp (a + 1)) - 48) * 10 + (tch tp (sk tp (a + 1) + 1) - 48), sk tp (a + 1) + 2) := by unfold nmR; rw [if_pos (show dig (tch tp (sk tp (a + 1))) from hd1), em]; dsimp only; rw [if_neg hd3]
          have ei : itR tp lo hi (a + 1) = (-1, (tch tp (sk tp (a + 1)) - 48) * 10 + (tch tp (sk tp (a + 1) + 1) - 48), sk tp (a + 1) + 2) := by rw [itR_g (by rw [en]) (by rw [en]; dsimp only; omega), en]
          rw [ei]
          have hw9 : (usc sc 8010 (sk tp (a + 1) + 1 + 1)) 8011 = -1 := hf0
          refine ⟨rfl, sk tp (a + 1) + 1 + 1, _, (HW_e (show usc sc 8010 (sk tp (a + 1) + 1 + 1) = usc (usc sc 8010 (sk tp (a + 1) + 1 + 1)) 8011 (-1) by rw [← hw9]; exact (usc_id _ 8011).symm) rfl), ⟨by omega, by omega⟩, fun _ => ?_, fun z => absurd rfl z⟩
          refine ⟨by first | rfl | (dsimp only; omega), ?_⟩
          first | rfl | (dsimp only; congr 1; omega)
        · skip
          refine RQ.call rfl rfl (CallR.up (d := 1) (m_isIn_f (d := 0) (by omega) (by omega) (by omega) hin) (by omega)) ?_
          refine RQ.seg 6 (pc' := 112) (L' := [some (.ref 80), some (.ref 89), some (.int (iI pl0)), some (.int (iI lo)), some (.int (iI hi)), some (.int (iI (lkm (lk tp (a + 1))))), some (.int (iI (10 * (lkm (lk tp (a + 1)) - 48) + (tch tp (sk tp (a + 1) + 1)) - 48)))]) (st' := [.int ((iI (sk tp (a + 1) + 1 + 1)) - (iI 1)), .ref 80]) (g1 := (HW (usc sc 8010 (sk tp (a + 1) + 1 + 1)) ar 81 oc rl ou tl, q)) rfl ?_
          refine RQ.to (L' := [some (.ref 80), some (.ref 89), some (.int (iI pl0)), some (.int (iI lo)), some (.int (iI hi)), some (.int (iI (lkm (lk tp (a + 1))))), some (.int (iI (10 * (lkm (lk tp (a + 1)) - 48) + (tch tp (sk tp (a + 1) + 1)) - 48)))]) (st' := [.int (iI (sk tp (a + 1) + 1 + 1 - 1)), .ref 80]) rfl (by simp only [iI_add, iI_sub, iI_mul, iI_neg]) ?_
          refine RQ.seg 2 (pc' := 116) (L' := [some (.ref 80), some (.ref 89), some (.int (iI pl0)), some (.int (iI lo)), some (.int (iI hi)), some (.int (iI (lkm (lk tp (a + 1))))), some (.int (iI (10 * (lkm (lk tp (a + 1)) - 48) + (tch tp (sk tp (a + 1) + 1)) - 48)))]) (st' := [.ref 80]) (g1 := (HW (usc sc 8010 (sk tp (a + 1) + 1 + 1 - 1)) ar 81 oc rl ou tl, q)) rfl ?_
          have hcall := CallR.up (d' := d + 2) (m_fails (K := K) (d := 0) (tx := 81) (oc := oc) (rl := rl) (ou := ou) (tl := tl) (q := q) (sc := usc sc 8010 (sk tp (a + 1) + 1 + 1 - 1)) (ar := ar) (by show -1 ≤ sc 8011 ∧ sc 8011 ≤ 200; omega)) (by omega)
          rw [show (if (usc sc 8010 (sk tp (a + 1) + 1 + 1 - 1)) 8011 = -1 then (usc sc 8010 (sk tp (a + 1) + 1 + 1 - 1)) 8010 else (usc sc 8010 (sk tp (a + 1) + 1 + 1 - 1)) 8011) = sk tp (a + 1) + 1 + 1 - 1 from if_pos hf0] at hcall
          refine RQ.call rfl rfl hcall ?_
          refine RQ.seg 1 (pc' := 120) (L' := [some (.ref 80), some (.ref 89), some (.int (iI pl0)), some (.int (iI lo)), some (.int (iI hi)), some (.int (iI (lkm (lk tp (a + 1))))), some (.int (iI (10 * (lkm (lk tp (a + 1)) - 48) + (tch tp (sk tp (a + 1) + 1)) - 48)))]) (st' := []) (g1 := (HW (usc (usc sc 8010 (sk tp (a + 1) + 1 + 1 - 1)) 8011 (sk tp (a + 1) + 1 + 1 - 1)) ar 81 oc rl ou tl, q)) rfl ?_
          refine RQ.ret rfl rfl ?_
          have em : nmn tp 2 (sk tp (a + 1)) 0 = ((tch tp (sk tp (a + 1)) - 48) * 10 + (tch tp (sk tp (a + 1) + 1) - 48), sk tp (a + 1) + 2) := by rw [nmn_2 hd1]; exact if_pos hd2
          have e11 : sk tp (a + 1) + 1 + 1 = sk tp (a + 1) + 2 := by omega
          rw [e11] at hd3
          have en : nmR tp 2 (a + 1) = (-1, (tch tp (sk tp (a + 1)) - 48) * 10 + (tch tp (sk tp (a + 1) + 1) - 48), sk tp (a + 1) + 2) := by unfold nmR; rw [if_pos (show dig (tch tp (sk tp (a + 1))) from hd1), em]; dsimp only; rw [if_neg hd3]
          have ei : itR tp lo hi (a + 1) = (sk tp (a + 1) + 2 - 1, (tch tp (sk tp (a + 1)) - 48) * 10 + (tch tp (sk tp (a + 1) + 1) - 48), sk tp (a + 1) + 2) := by rw [itR_o (by rw [en]) (by rw [en]; dsimp only; omega), en]
          rw [ei]
          refine ⟨rfl, sk tp (a + 1) + 1 + 1 - 1, ar 89, ?_, ⟨by omega, by omega⟩, fun z => absurd z (by dsimp only; omega), fun _ => rfl⟩
          exact HW_e (by first | rfl | (dsimp only; congr 1; done) | (dsimp only; congr 1; omega) | (dsimp only; congr 2; done) | (dsimp only; congr 2; omega)) (usc_id ar 89).symm
    · skip
      refine RQ.call rfl rfl (CallR.up (d := 1) (m_dig81f (d := 0) (sc := usc sc 8010 (sk tp (a + 1) + 1)) (ar := ar) (a := sk tp (a + 1) + 1) ht hv rfl (by omega) hd2) (by omega)) ?_
      refine RQ.seg 2 (pc' := 79) (L' := [some (.ref 80), some (.ref 89), some (.int (iI pl0)), some (.int (iI lo)), some (.int (iI hi)), some (.int (iI (lkm (lk tp (a + 1))))), some (.int (iI (lkm (lk tp (a + 1)) - 48)))]) (st' := [.ref 80]) (g1 := (HW (usc sc 8010 (sk tp (a + 1) + 1)) ar 81 oc rl ou tl, q)) rfl ?_
      rcases Decidable.em (dig (tch tp (sk tp (a + 1) + 1))) with hd3 | hd3
      · skip
        refine RQ.call rfl rfl (CallR.up (d := 1) (m_dig81t (d := 0) (sc := usc sc 8010 (sk tp (a + 1) + 1)) (ar := ar) (a := sk tp (a + 1) + 1) ht hv rfl (by omega) hd3) (by omega)) ?_
        have hp3 := tch_pos (tp := tp) (p := sk tp (a + 1) + 1) (by omega)
        refine RQ.seg 2 (pc' := 86) (L' := [some (.ref 80), some (.ref 89), some (.int (iI pl0)), some (.int (iI lo)), some (.int (iI hi)), some (.int (iI (lkm (lk tp (a + 1))))), some (.int (iI (lkm (lk tp (a + 1)) - 48)))]) (st' := [.ref 80]) (g1 := (HW (usc sc 8010 (sk tp (a + 1) + 1)) ar 81 oc rl ou tl, q)) rfl ?_
        have hcall := CallR.up (d' := d + 2) (m_fails (K := K) (d := 0) (tx := 81) (oc := oc) (rl := rl) (ou := ou) (tl := tl) (q := q) (sc := usc sc 8010 (sk tp (a + 1) + 1)) (ar := ar) (by show -1 ≤ sc 8011 ∧ sc 8011 ≤ 200; omega)) (by omega)
        rw [show (if (usc sc 8010 (sk tp (a + 1) + 1)) 8011 = -1 then (usc sc 8010 (sk tp (a + 1) + 1)) 8010 else (usc sc 8010 (sk tp (a + 1) + 1)) 8011) = sk tp (a + 1) + 1 from if_pos hf0] at hcall
        refine RQ.call rfl rfl hcall ?_
        refine RQ.seg 1 (pc' := 90) (L' := [some (.ref 80), some (.ref 89), some (.int (iI pl0)), some (.int (iI lo)), some (.int (iI hi)), some (.int (iI (lkm (lk tp (a + 1))))), some (.int (iI (lkm (lk tp (a + 1)) - 48)))]) (st' := []) (g1 := (HW (usc (usc sc 8010 (sk tp (a + 1) + 1)) 8011 (sk tp (a + 1) + 1)) ar 81 oc rl ou tl, q)) rfl ?_
        refine RQ.ret rfl rfl ?_
        have em : nmn tp 2 (sk tp (a + 1)) 0 = (tch tp (sk tp (a + 1)) - 48, sk tp (a + 1) + 1) := by rw [nmn_2 hd1]; exact if_neg hd2
        have en : nmR tp 2 (a + 1) = (sk tp (a + 1) + 1, tch tp (sk tp (a + 1)) - 48, sk tp (a + 1) + 1) := by unfold nmR; rw [if_pos (show dig (tch tp (sk tp (a + 1))) from hd1), em]; dsimp only; rw [if_pos hd3]
        have ei : itR tp lo hi (a + 1) = (sk tp (a + 1) + 1, tch tp (sk tp (a + 1)) - 48, sk tp (a + 1) + 1) := by rw [itR_n (by rw [en]; show sk tp (a + 1) + 1 ≠ -1; omega), en]
        rw [ei]
        refine ⟨rfl, sk tp (a + 1) + 1, ar 89, ?_, ⟨by omega, by omega⟩, fun z => absurd z (by dsimp only; omega), fun _ => rfl⟩
        exact HW_e (by first | rfl | (dsimp only; congr 1; done) | (dsimp only; congr 1; omega) | (dsimp only; congr 2; done) | (dsimp only; congr 2; omega)) (usc_id ar 89).symm
      · skip
        refine RQ.call rfl rfl (CallR.up (d := 1) (m_dig81f (d := 0) (sc := usc sc 8010 (sk tp (a + 1) + 1)) (ar := ar) (a := sk tp (a + 1) + 1) ht hv rfl (by omega) hd3) (by omega)) ?_
        refine RQ.seg 2 (pc' := 93) (L' := [some (.ref 80), some (.ref 89), some (.int (iI pl0)), some (.int (iI lo)), some (.int (iI hi)), some (.int (iI (lkm (lk tp (a + 1))))), some (.int (iI (lkm (lk tp (a + 1)) - 48)))]) (st' := [.int (iI (lkm (lk tp (a + 1)) - 48))]) (g1 := (HW (usc sc 8010 (sk tp (a + 1) + 1)) ar 81 oc rl ou tl, q)) rfl ?_
        refine RQ.seg 1 (pc' := 94) (L' := [some (.ref 80), some (.ref 89), some (.int (iI pl0)), some (.int (iI lo)), some (.int (iI hi)), some (.int (iI (lkm (lk tp (a + 1))))), some (.int (iI (lkm (lk tp (a + 1)) - 48)))]) (st' := [.long ((iI (lkm (lk tp (a + 1)) - 48)).toInt64)]) (g1 := (HW (usc sc 8010 (sk tp (a + 1) + 1)) ar 81 oc rl ou tl, q)) rfl ?_
        refine RQ.to (L' := [some (.ref 80), some (.ref 89), some (.int (iI pl0)), some (.int (iI lo)), some (.int (iI hi)), some (.int (iI (lkm (lk tp (a + 1))))), some (.int (iI (lkm (lk tp (a + 1)) - 48)))]) (st' := [.long (lL (lkm (lk tp (a + 1)) - 48))]) rfl (by rw [iI_64 (by omega)]) ?_
        refine RQ.seg 1 (pc' := 95) (L' := [some (.ref 80), some (.ref 89), some (.int (iI pl0)), some (.int (iI lo)), some (.int (iI hi)), some (.int (iI (lkm (lk tp (a + 1))))), some (.int (iI (lkm (lk tp (a + 1)) - 48)))]) (st' := [.int (iI lo), .long (lL (lkm (lk tp (a + 1)) - 48))]) (g1 := (HW (usc sc 8010 (sk tp (a + 1) + 1)) ar 81 oc rl ou tl, q)) rfl ?_
        refine RQ.seg 1 (pc' := 96) (L' := [some (.ref 80), some (.ref 89), some (.int (iI pl0)), some (.int (iI lo)), some (.int (iI hi)), some (.int (iI (lkm (lk tp (a + 1))))), some (.int (iI (lkm (lk tp (a + 1)) - 48)))]) (st' := [.long ((iI lo).toInt64), .long (lL (lkm (lk tp (a + 1)) - 48))]) (g1 := (HW (usc sc 8010 (sk tp (a + 1) + 1)) ar 81 oc rl ou tl, q)) rfl ?_
        refine RQ.to (L' := [some (.ref 80), some (.ref 89), some (.int (iI pl0)), some (.int (iI lo)), some (.int (iI hi)), some (.int (iI (lkm (lk tp (a + 1))))), some (.int (iI (lkm (lk tp (a + 1)) - 48)))]) (st' := [.long (lL lo), .long (lL (lkm (lk tp (a + 1)) - 48))]) rfl (by rw [iI_64 (by omega)]) ?_
        refine RQ.seg 1 (pc' := 98) (L' := [some (.ref 80), some (.ref 89), some (.int (iI pl0)), some (.int (iI lo)), some (.int (iI hi)), some (.int (iI (lkm (lk tp (a + 1))))), some (.int (iI (lkm (lk tp (a + 1)) - 48)))]) (st' := [.int (iI hi), .long (lL lo), .long (lL (lkm (lk tp (a + 1)) - 48))]) (g1 := (HW (usc sc 8010 (sk tp (a + 1) + 1)) ar 81 oc rl ou tl, q)) rfl ?_
        refine RQ.seg 1 (pc' := 99) (L' := [some (.ref 80), some (.ref 89), some (.int (iI pl0)), some (.int (iI lo)), some (.int (iI hi)), some (.int (iI (lkm (lk tp (a + 1))))), some (.int (iI (lkm (lk tp (a + 1)) - 48)))]) (st' := [.long ((iI hi).toInt64), .long (lL lo), .long (lL (lkm (lk tp (a + 1)) - 48))]) (g1 := (HW (usc sc 8010 (sk tp (a + 1) + 1)) ar 81 oc rl ou tl, q)) rfl ?_
        refine RQ.to (L' := [some (.ref 80), some (.ref 89), some (.int (iI pl0)), some (.int (iI lo)), some (.int (iI hi)), some (.int (iI (lkm (lk tp (a + 1))))), some (.int (iI (lkm (lk tp (a + 1)) - 48)))]) (st' := [.long (lL hi), .long (lL lo), .long (lL (lkm (lk tp (a + 1)) - 48))]) rfl (by rw [iI_64 (by omega)]) ?_
        rcases Decidable.em (lo ≤ lkm (lk tp (a + 1)) - 48 ∧ lkm (lk tp (a + 1)) - 48 ≤ hi) with hin | hin
        · skip
          refine RQ.call rfl rfl (CallR.up (d := 1) (m_isIn_t (d := 0) (by omega) (by omega) (by omega) hin) (by omega)) ?_
          refine RQ.seg 4 (pc' := 125) (L' := [some (.ref 80), some (.ref 89), some (.int (iI pl0)), some (.int (iI lo)), some (.int (iI hi)), some (.int (iI (lkm (lk tp (a + 1))))), some (.int (iI (lkm (lk tp (a + 1)) - 48)))]) (st' := [.int (iI (lkm (lk tp (a + 1)) - 48)), .int (iI pl0), .ref 89]) (g1 := (HW (usc sc 8010 (sk tp (a + 1) + 1)) ar 81 oc rl ou tl, q)) rfl ?_
          refine RQ.iast (z := pl0) (v := (lkm (lk tp (a + 1)) - 48)) (g1 := (HW (usc sc 8010 (sk tp (a + 1) + 1)) (usc ar 89 (usz (ar 89) pl0 (lkm (lk tp (a + 1)) - 48))) 81 oc rl ou tl, q)) rfl rfl rfl rfl (by omega) (by decide) (HWa_89 rfl) ?_
          refine RQ.ret rfl rfl ?_
          have em : nmn tp 2 (sk tp (a + 1)) 0 = (tch tp (sk tp (a + 1)) - 48, sk tp (a + 1) + 1) := by rw [nmn_2 hd1]; exact if_neg hd2
          have en : nmR tp 2 (a + 1) = (-1, tch tp (sk tp (a + 1)) - 48, sk tp (a + 1) + 1) := by unfold nmR; rw [if_pos (show dig (tch tp (sk tp (a + 1))) from hd1), em]; dsimp only; rw [if_neg hd3]
          have ei : itR tp lo hi (a + 1) = (-1, tch tp (sk tp (a + 1)) - 48, sk tp (a + 1) + 1) := by rw [itR_g (by rw [en]) (by rw [en]; dsimp only; omega), en]
          rw [ei]
          have hw9 : (usc sc 8010 (sk tp (a + 1) + 1)) 8011 = -1 := hf0
          refine ⟨rfl, sk tp (a + 1) + 1, _, (HW_e (show usc sc 8010 (sk tp (a + 1) + 1) = usc (usc sc 8010 (sk tp (a + 1) + 1)) 8011 (-1) by rw [← hw9]; exact (usc_id _ 8011).symm) rfl), ⟨by omega, by omega⟩, fun _ => ?_, fun z => absurd rfl z⟩
          refine ⟨by first | rfl | (dsimp only; omega), ?_⟩
          first | rfl | (dsimp only; congr 1; omega)
        · skip
          refine RQ.call rfl rfl (CallR.up (d := 1) (m_isIn_f (d := 0) (by omega) (by omega) (by omega) hin) (by omega)) ?_
          refine RQ.seg 6 (pc' := 112) (L' := [some (.ref 80), some (.ref 89), some (.int (iI pl0)), some (.int (iI lo)), some (.int (iI hi)), some (.int (iI (lkm (lk tp (a + 1))))), some (.int (iI (lkm (lk tp (a + 1)) - 48)))]) (st' := [.int ((iI (sk tp (a + 1) + 1)) - (iI 1)), .ref 80]) (g1 := (HW (usc sc 8010 (sk tp (a + 1) + 1)) ar 81 oc rl ou tl, q)) rfl ?_
          refine RQ.to (L' := [some (.ref 80), some (.ref 89), some (.int (iI pl0)), some (.int (iI lo)), some (.int (iI hi)), some (.int (iI (lkm (lk tp (a + 1))))), some (.int (iI (lkm (lk tp (a + 1)) - 48)))]) (st' := [.int (iI (sk tp (a + 1) + 1 - 1)), .ref 80]) rfl (by simp only [iI_add, iI_sub, iI_mul, iI_neg]) ?_
          refine RQ.seg 2 (pc' := 116) (L' := [some (.ref 80), some (.ref 89), some (.int (iI pl0)), some (.int (iI lo)), some (.int (iI hi)), some (.int (iI (lkm (lk tp (a + 1))))), some (.int (iI (lkm (lk tp (a + 1)) - 48)))]) (st' := [.ref 80]) (g1 := (HW (usc sc 8010 (sk tp (a + 1) + 1 - 1)) ar 81 oc rl ou tl, q)) rfl ?_
          have hcall := CallR.up (d' := d + 2) (m_fails (K := K) (d := 0) (tx := 81) (oc := oc) (rl := rl) (ou := ou) (tl := tl) (q := q) (sc := usc sc 8010 (sk tp (a + 1) + 1 - 1)) (ar := ar) (by show -1 ≤ sc 8011 ∧ sc 8011 ≤ 200; omega)) (by omega)
          rw [show (if (usc sc 8010 (sk tp (a + 1) + 1 - 1)) 8011 = -1 then (usc sc 8010 (sk tp (a + 1) + 1 - 1)) 8010 else (usc sc 8010 (sk tp (a + 1) + 1 - 1)) 8011) = sk tp (a + 1) + 1 - 1 from if_pos hf0] at hcall
          refine RQ.call rfl rfl hcall ?_
          refine RQ.seg 1 (pc' := 120) (L' := [some (.ref 80), some (.ref 89), some (.int (iI pl0)), some (.int (iI lo)), some (.int (iI hi)), some (.int (iI (lkm (lk tp (a + 1))))), some (.int (iI (lkm (lk tp (a + 1)) - 48)))]) (st' := []) (g1 := (HW (usc (usc sc 8010 (sk tp (a + 1) + 1 - 1)) 8011 (sk tp (a + 1) + 1 - 1)) ar 81 oc rl ou tl, q)) rfl ?_
          refine RQ.ret rfl rfl ?_
          have em : nmn tp 2 (sk tp (a + 1)) 0 = (tch tp (sk tp (a + 1)) - 48, sk tp (a + 1) + 1) := by rw [nmn_2 hd1]; exact if_neg hd2
          have en : nmR tp 2 (a + 1) = (-1, tch tp (sk tp (a + 1)) - 48, sk tp (a + 1) + 1) := by unfold nmR; rw [if_pos (show dig (tch tp (sk tp (a + 1))) from hd1), em]; dsimp only; rw [if_neg hd3]
          have ei : itR tp lo hi (a + 1) = (sk tp (a + 1) + 1 - 1, tch tp (sk tp (a + 1)) - 48, sk tp (a + 1) + 1) := by rw [itR_o (by rw [en]) (by rw [en]; dsimp only; omega), en]
          rw [ei]
          refine ⟨rfl, sk tp (a + 1) + 1 - 1, ar 89, ?_, ⟨by omega, by omega⟩, fun z => absurd z (by dsimp only; omega), fun _ => rfl⟩
          exact HW_e (by first | rfl | (dsimp only; congr 1; done) | (dsimp only; congr 1; omega) | (dsimp only; congr 2; done) | (dsimp only; congr 2; omega)) (usc_id ar 89).symm
  · skip
    refine RQ.call rfl rfl (CallR.up (d := 1) (m_dig81f (d := 0) (sc := usc sc 8010 (sk tp (a + 1))) (ar := ar) (a := sk tp (a + 1)) ht hv rfl (by omega) hd1) (by omega)) ?_
    refine RQ.seg 2 (pc' := 24) (L' := [some (.ref 80), some (.ref 89), some (.int (iI pl0)), some (.int (iI lo)), some (.int (iI hi)), some (.int (iI (lkm (lk tp (a + 1))))), none]) (st' := [.ref 80]) (g1 := (HW (usc sc 8010 (sk tp (a + 1))) ar 81 oc rl ou tl, q)) rfl ?_
    have hcall := CallR.up (d' := d + 2) (m_fails (K := K) (d := 0) (tx := 81) (oc := oc) (rl := rl) (ou := ou) (tl := tl) (q := q) (sc := usc sc 8010 (sk tp (a + 1))) (ar := ar) (by show -1 ≤ sc 8011 ∧ sc 8011 ≤ 200; omega)) (by omega)
    rw [show (if (usc sc 8010 (sk tp (a + 1))) 8011 = -1 then (usc sc 8010 (sk tp (a + 1))) 8010 else (usc sc 8010 (sk tp (a + 1))) 8011) = sk tp (a + 1) from if_pos hf0] at hcall
    refine RQ.call rfl rfl hcall ?_
    refine RQ.seg 1 (pc' := 28) (L' := [some (.ref 80), some (.ref 89), some (.int (iI pl0)), some (.int (iI lo)), some (.int (iI hi)), some (.int (iI (lkm (lk tp (a + 1))))), none]) (st' := []) (g1 := (HW (usc (usc sc 8010 (sk tp (a + 1))) 8011 (sk tp (a + 1))) ar 81 oc rl ou tl, q)) rfl ?_
    refine RQ.ret rfl rfl ?_
    have en : nmR tp 2 (a + 1) = (sk tp (a + 1), 0, sk tp (a + 1)) := by unfold nmR; exact if_neg hd1
    have ei : itR tp lo hi (a + 1) = (sk tp (a + 1), 0, sk tp (a + 1)) := by rw [itR_n (by rw [en]; show sk tp (a + 1) ≠ -1; omega), en]
    rw [ei]
    refine ⟨rfl, sk tp (a + 1), ar 89, ?_, ⟨by omega, by omega⟩, fun z => absurd z (by dsimp only; omega), fun _ => rfl⟩
    exact HW_e (by first | rfl | (dsimp only; congr 1; done) | (dsimp only; congr 1; omega) | (dsimp only; congr 2; done) | (dsimp only; congr 2; omega)) (usc_id ar 89).symm
theorem m_item90 {K : PK} {d : Nat} {sc : Nat → Int} {ar : Nat → Int → Int} {oc : Nat} {rl : Nat → Option Nat} {ou : Nat → Int64} {tl : List PO} {q : Nat × Nat} {tp : List Int} {bg : Int} (ht : TpOK tp) (hv : TvM tp bg 160 (sc 8008) (sc 8009) (ar 81)) {a pl0 lo hi : Int} (ha : sc 8010 = a) (hr : 0 ≤ a ∧ a < (tp.length : Int)) (hf0 : sc 8011 = -1) (hpl : 0 ≤ pl0 ∧ pl0 < 4) (hlo : 0 ≤ lo ∧ lo ≤ 99) (hhi : 0 ≤ hi ∧ hi ≤ 99) : CQ K (d + 3) 179 [.ref 80, .ref 90, .int (iI pl0), .int (iI lo), .int (iI hi)] (HW sc ar 81 oc rl ou tl, q) (fun r g' => r = none ∧ ∃ a' f', g' = (HW (usc (usc sc 8010 a') 8011 (itR tp lo hi (a + 1)).1) (usc ar 90 f') 81 oc rl ou tl, q) ∧ (0 ≤ a' ∧ a' ≤ (tp.length : Int)) ∧ ((itR tp lo hi (a + 1)).1 = -1 → a' = (itR tp lo hi (a + 1)).2.2 ∧ f' = usz (ar 90) pl0 (itR tp lo hi (a + 1)).2.1) ∧ ((itR tp lo hi (a + 1)).1 ≠ -1 → f' = ar 90)) := by
  have ht1 := ht.1
  obtain ⟨hv1, hv2, hv3, hv4⟩ := id hv
  have hsk := sk_r (tp := tp) (p := a + 1) (by omega)
  have hlr := tch_r ht (sk tp (a + 1))
  have hlk : 0 ≤ lk tp (a + 1) ∧ lk tp (a + 1) ≤ 255 := hlr
  have hlm := lkm_r hlk
  have hcc : lk tp (a + 1) = tch tp (sk tp (a + 1)) := rfl
  refine CQ.of (own := 11) (n := 7) (ini := false) (rt := none) (cd := cd179) (by decide +kernel) rfl (by decide +kernel) rfl (Nat.le_of_ble_eq_true rfl) ?_
  refine RQ.seg 3 (pc' := 5) (L' := [some (.ref 80), some (.ref 90), some (.int (iI pl0)), some (.int (iI lo)), some (.int (iI hi)), none, none]) (st' := [.int (iI (sc 8010)), .ref 80]) (g1 := (HW sc ar 81 oc rl ou tl, q)) rfl ?_
  refine RQ.to (L' := [some (.ref 80), some (.ref 90), some (.int (iI pl0)), some (.int (iI lo)), some (.int (iI hi)), none, none]) (st' := [.int (iI a), .ref 80]) rfl (by rw [show sc 8010 = a from ha]) ?_
  refine RQ.seg 2 (pc' := 7) (L' := [some (.ref 80), some (.ref 90), some (.int (iI pl0)), some (.int (iI lo)), some (.int (iI hi)), none, none]) (st' := [.int ((iI a) + (iI 1)), .ref 80]) (g1 := (HW sc ar 81 oc rl ou tl, q)) rfl ?_
  refine RQ.to (L' := [some (.ref 80), some (.ref 90), some (.int (iI pl0)), some (.int (iI lo)), some (.int (iI hi)), none, none]) (st' := [.int (iI (a + 1)), .ref 80]) rfl (by simp only [iI_add, iI_sub, iI_mul, iI_neg]) ?_
  refine RQ.seg 2 (pc' := 11) (L' := [some (.ref 80), some (.ref 90), some (.int (iI pl0)), some (.int (iI lo)), some (.int (iI hi)), none, none]) (st' := [.ref 80]) (g1 := (HW (usc sc 8010 (a + 1)) ar 81 oc rl ou tl, q)) rfl ?_
  refine RQ.call rfl rfl (CallR.up (d := 1) (m_look81 (d := 0) (sc := usc sc 8010 (a + 1)) (ar := ar) (a := a + 1) ht hv rfl (by omega)) (by omega)) ?_
  refine RQ.hp (g1 := (HW (usc sc 8010 (sk tp (a + 1))) ar 81 oc rl ou tl, q)) (HW_e (by rw [usc_uu _ 8010 _ _]; try rfl) rfl) ?_
  refine RQ.seg 2 (pc' := 17) (L' := [some (.ref 80), some (.ref 90), some (.int (iI pl0)), some (.int (iI lo)), some (.int (iI hi)), some (.int (iI (lkm (lk tp (a + 1))))), none]) (st' := [.ref 80]) (g1 := (HW (usc sc 8010 (sk tp (a + 1))) ar 81 oc rl ou tl, q)) rfl ?_
  rcases Decidable.em (dig (tch tp (sk tp (a + 1)))) with hd1 | hd1
  · skip
    refine RQ.call rfl rfl (CallR.up (d := 1) (m_dig81t (d := 0) (sc := usc sc 8010 (sk tp (a + 1))) (ar := ar) (a := sk tp (a + 1)) ht hv rfl (by omega) hd1) (by omega)) ?_
    have hp1 := tch_pos (tp := tp) (p := sk tp (a + 1)) (by omega)
    refine RQ.seg 10 (pc' := 43) (L' := [some (.ref 80), some (.ref 90), some (.int (iI pl0)), some (.int (iI lo)), some (.int (iI hi)), some (.int (iI (lkm (lk tp (a + 1))))), some (.int ((iI (lkm (lk tp (a + 1)))) - (iI 48)))]) (st' := [.int ((iI (sk tp (a + 1))) + (iI 1)), .ref 80]) (g1 := (HW (usc sc 8010 (sk tp (a + 1))) ar 81 oc rl ou tl, q)) rfl ?_
    refine RQ.to (L' := [some (.ref 80), some (.ref 90), some (.int (iI pl0)), some (.int (iI lo)), some (.int (iI hi)), some (.int (iI (lkm (lk tp (a + 1))))), some (.int (iI (lkm (lk tp (a + 1)) - 48)))]) (st' := [.int (iI (sk tp (a + 1) + 1)), .ref 80]) (by simp only [iI_add, iI_sub, iI_mul, iI_neg]) (by simp only [iI_add, iI_sub, iI_mul, iI_neg]) ?_
    refine RQ.seg 2 (pc' := 47) (L' := [some (.ref 80), some (.ref 90), some (.int (iI pl0)), some (.int (iI lo)), some (.int (iI hi)), some (.int (iI (lkm (lk tp (a + 1))))), some (.int (iI (lkm (lk tp (a + 1)) - 48)))]) (st' := [.ref 80]) (g1 := (HW (usc sc 8010 (sk tp (a + 1) + 1)) ar 81 oc rl ou tl, q)) rfl ?_
    rcases Decidable.em (dig (tch tp (sk tp (a + 1) + 1))) with hd2 | hd2
    · skip
      refine RQ.call rfl rfl (CallR.up (d := 1) (m_dig81t (d := 0) (sc := usc sc 8010 (sk tp (a + 1) + 1)) (ar := ar) (a := sk tp (a + 1) + 1) ht hv rfl (by omega) hd2) (by omega)) ?_
      have hp2 := tch_pos (tp := tp) (p := sk tp (a + 1) + 1) (by omega)
      refine RQ.seg 5 (pc' := 59) (L' := [some (.ref 80), some (.ref 90), some (.int (iI pl0)), some (.int (iI lo)), some (.int (iI hi)), some (.int (iI (lkm (lk tp (a + 1))))), some (.int (iI (lkm (lk tp (a + 1)) - 48)))]) (st' := [.ref 80, .int ((iI 10) * (iI (lkm (lk tp (a + 1)) - 48)))]) (g1 := (HW (usc sc 8010 (sk tp (a + 1) + 1)) ar 81 oc rl ou tl, q)) rfl ?_
      refine RQ.to (L' := [some (.ref 80), some (.ref 90), some (.int (iI pl0)), some (.int (iI lo)), some (.int (iI hi)), some (.int (iI (lkm (lk tp (a + 1))))), some (.int (iI (lkm (lk tp (a + 1)) - 48)))]) (st' := [.ref 80, .int (iI (10 * (lkm (lk tp (a + 1)) - 48)))]) rfl (by simp only [iI_add, iI_sub, iI_mul, iI_neg]) ?_
      refine RQ.call rfl rfl (CallR.up (d := 1) (m_here81 (d := 0) (sc := usc sc 8010 (sk tp (a + 1) + 1)) (ar := ar) (a := sk tp (a + 1) + 1) ht hv rfl (by omega)) (by omega)) ?_
      rw [lkm_n (c := tch tp (sk tp (a + 1) + 1)) (by omega)]
      refine RQ.seg 9 (pc' := 75) (L' := [some (.ref 80), some (.ref 90), some (.int (iI pl0)), some (.int (iI lo)), some (.int (iI hi)), some (.int (iI (lkm (lk tp (a + 1))))), some (.int (((iI (10 * (lkm (lk tp (a + 1)) - 48))) + (iI (tch tp (sk tp (a + 1) + 1)))) - (iI 48)))]) (st' := [.int ((iI (sk tp (a + 1) + 1)) + (iI 1)), .ref 80]) (g1 := (HW (usc sc 8010 (sk tp (a + 1) + 1)) ar 81 oc rl ou tl, q)) rfl ?_
      refine RQ.to (L' := [some (.ref 80), some (.ref 90), some (.int (iI pl0)), some (.int (iI lo)), some (.int (iI hi)), some (.int (iI (lkm (lk tp (a + 1))))), some (.int (iI (10 * (lkm (lk tp (a + 1)) - 48) + (tch tp (sk tp (a + 1) + 1)) - 48)))]) (st' := [.int (iI (sk tp (a + 1) + 1 + 1)), .ref 80]) (by simp only [iI_add, iI_sub, iI_mul, iI_neg]) (by simp only [iI_add, iI_sub, iI_mul, iI_neg]) ?_
      refine RQ.seg 2 (pc' := 79) (L' := [some (.ref 80), some (.ref 90), some (.int (iI pl0)), some (.int (iI lo)), some (.int (iI hi)), some (.int (iI (lkm (lk tp (a + 1))))), some (.int (iI (10 * (lkm (lk tp (a + 1)) - 48) + (tch tp (sk tp (a + 1) + 1)) - 48)))]) (st' := [.ref 80]) (g1 := (HW (usc sc 8010 (sk tp (a + 1) + 1 + 1)) ar 81 oc rl ou tl, q)) rfl ?_
      rcases Decidable.em (dig (tch tp (sk tp (a + 1) + 1 + 1))) with hd3 | hd3
      · skip
        refine RQ.call rfl rfl (CallR.up (d := 1) (m_dig81t (d := 0) (sc := usc sc 8010 (sk tp (a + 1) + 1 + 1)) (ar := ar) (a := sk tp (a + 1) + 1 + 1) ht hv rfl (by omega) hd3) (by omega)) ?_
        have hp3 := tch_pos (tp := tp) (p := sk tp (a + 1) + 1 + 1) (by omega)
        refine RQ.seg 2 (pc' := 86) (L' := [some (.ref 80), some (.ref 90), some (.int (iI pl0)), some (.int (iI lo)), some (.int (iI hi)), some (.int (iI (lkm (lk tp (a + 1))))), some (.int (iI (10 * (lkm (lk tp (a + 1)) - 48) + (tch tp (sk tp (a + 1) + 1)) - 48)))]) (st' := [.ref 80]) (g1 := (HW (usc sc 8010 (sk tp (a + 1) + 1 + 1)) ar 81 oc rl ou tl, q)) rfl ?_
        have hcall := CallR.up (d' := d + 2) (m_fails (K := K) (d := 0) (tx := 81) (oc := oc) (rl := rl) (ou := ou) (tl := tl) (q := q) (sc := usc sc 8010 (sk tp (a + 1) + 1 + 1)) (ar := ar) (by show -1 ≤ sc 8011 ∧ sc 8011 ≤ 200; omega)) (by omega)
        rw [show (if (usc sc 8010 (sk tp (a + 1) + 1 + 1)) 8011 = -1 then (usc sc 8010 (sk tp (a + 1) + 1 + 1)) 8010 else (usc sc 8010 (sk tp (a + 1) + 1 + 1)) 8011) = sk tp (a + 1) + 1 + 1 from if_pos hf0] at hcall
        refine RQ.call rfl rfl hcall ?_
        refine RQ.seg 1 (pc' := 90) (L' := [some (.ref 80), some (.ref 90), some (.int (iI pl0)), some (.int (iI lo)), some (.int (iI hi)), some (.int (iI (lkm (lk tp (a + 1))))), some (.int (iI (10 * (lkm (lk tp (a + 1)) - 48) + (tch tp (sk tp (a + 1) + 1)) - 48)))]) (st' := []) (g1 := (HW (usc (usc sc 8010 (sk tp (a + 1) + 1 + 1)) 8011 (sk tp (a + 1) + 1 + 1)) ar 81 oc rl ou tl, q)) rfl ?_
        refine RQ.ret rfl rfl ?_
        have em : nmn tp 2 (sk tp (a + 1)) 0 = ((tch tp (sk tp (a + 1)) - 48) * 10 + (tch tp (sk tp (a + 1) + 1) - 48), sk tp (a + 1) + 2) := by rw [nmn_2 hd1]; exact if_pos hd2
        have e11 : sk tp (a + 1) + 1 + 1 = sk tp (a + 1) + 2 := by omega
        rw [e11] at hd3
        have en : nmR tp 2 (a + 1) = (sk tp (a + 1) + 2, (tch tp (sk tp (a + 1)) - 48) * 10 + (tch tp (sk tp (a + 1) + 1) - 48), sk tp (a + 1) + 2) := by unfold nmR; rw [if_pos (show dig (tch tp (sk tp (a + 1))) from hd1), em]; dsimp only; rw [if_pos hd3]
        have ei : itR tp lo hi (a + 1) = (sk tp (a + 1) + 2, (tch tp (sk tp (a + 1)) - 48) * 10 + (tch tp (sk tp (a + 1) + 1) - 48), sk tp (a + 1) + 2) := by rw [itR_n (by rw [en]; show sk tp (a + 1) + 2 ≠ -1; omega), en]
        rw [ei]
        refine ⟨rfl, sk tp (a + 1) + 1 + 1, ar 90, ?_, ⟨by omega, by omega⟩, fun z => absurd z (by dsimp only; omega), fun _ => rfl⟩
        exact HW_e (by first | rfl | (dsimp only; congr 1; done) | (dsimp only; congr 1; omega) | (dsimp only; congr 2; done) | (dsimp only; congr 2; omega)) (usc_id ar 90).symm
      · skip
        refine RQ.call rfl rfl (CallR.up (d := 1) (m_dig81f (d := 0) (sc := usc sc 8010 (sk tp (a + 1) + 1 + 1)) (ar := ar) (a := sk tp (a + 1) + 1 + 1) ht hv rfl (by omega) hd3) (by omega)) ?_
        refine RQ.seg 2 (pc' := 93) (L' := [some (.ref 80), some (.ref 90), some (.int (iI pl0)), some (.int (iI lo)), some (.int (iI hi)), some (.int (iI (lkm (lk tp (a + 1))))), some (.int (iI (10 * (lkm (lk tp (a + 1)) - 48) + (tch tp (sk tp (a + 1) + 1)) - 48)))]) (st' := [.int (iI (10 * (lkm (lk tp (a + 1)) - 48) + (tch tp (sk tp (a + 1) + 1)) - 48))]) (g1 := (HW (usc sc 8010 (sk tp (a + 1) + 1 + 1)) ar 81 oc rl ou tl, q)) rfl ?_
        refine RQ.seg 1 (pc' := 94) (L' := [some (.ref 80), some (.ref 90), some (.int (iI pl0)), some (.int (iI lo)), some (.int (iI hi)), some (.int (iI (lkm (lk tp (a + 1))))), some (.int (iI (10 * (lkm (lk tp (a + 1)) - 48) + (tch tp (sk tp (a + 1) + 1)) - 48)))]) (st' := [.long ((iI (10 * (lkm (lk tp (a + 1)) - 48) + (tch tp (sk tp (a + 1) + 1)) - 48)).toInt64)]) (g1 := (HW (usc sc 8010 (sk tp (a + 1) + 1 + 1)) ar 81 oc rl ou tl, q)) rfl ?_
        refine RQ.to (L' := [some (.ref 80), some (.ref 90), some (.int (iI pl0)), some (.int (iI lo)), some (.int (iI hi)), some (.int (iI (lkm (lk tp (a + 1))))), some (.int (iI (10 * (lkm (lk tp (a + 1)) - 48) + (tch tp (sk tp (a + 1) + 1)) - 48)))]) (st' := [.long (lL (10 * (lkm (lk tp (a + 1)) - 48) + (tch tp (sk tp (a + 1) + 1)) - 48))]) rfl (by rw [iI_64 (by omega)]) ?_
        refine RQ.seg 1 (pc' := 95) (L' := [some (.ref 80), some (.ref 90), some (.int (iI pl0)), some (.int (iI lo)), some (.int (iI hi)), some (.int (iI (lkm (lk tp (a + 1))))), some (.int (iI (10 * (lkm (lk tp (a + 1)) - 48) + (tch tp (sk tp (a + 1) + 1)) - 48)))]) (st' := [.int (iI lo), .long (lL (10 * (lkm (lk tp (a + 1)) - 48) + (tch tp (sk tp (a + 1) + 1)) - 48))]) (g1 := (HW (usc sc 8010 (sk tp (a + 1) + 1 + 1)) ar 81 oc rl ou tl, q)) rfl ?_
        refine RQ.seg 1 (pc' := 96) (L' := [some (.ref 80), some (.ref 90), some (.int (iI pl0)), some (.int (iI lo)), some (.int (iI hi)), some (.int (iI (lkm (lk tp (a + 1))))), some (.int (iI (10 * (lkm (lk tp (a + 1)) - 48) + (tch tp (sk tp (a + 1) + 1)) - 48)))]) (st' := [.long ((iI lo).toInt64), .long (lL (10 * (lkm (lk tp (a + 1)) - 48) + (tch tp (sk tp (a + 1) + 1)) - 48))]) (g1 := (HW (usc sc 8010 (sk tp (a + 1) + 1 + 1)) ar 81 oc rl ou tl, q)) rfl ?_
        refine RQ.to (L' := [some (.ref 80), some (.ref 90), some (.int (iI pl0)), some (.int (iI lo)), some (.int (iI hi)), some (.int (iI (lkm (lk tp (a + 1))))), some (.int (iI (10 * (lkm (lk tp (a + 1)) - 48) + (tch tp (sk tp (a + 1) + 1)) - 48)))]) (st' := [.long (lL lo), .long (lL (10 * (lkm (lk tp (a + 1)) - 48) + (tch tp (sk tp (a + 1) + 1)) - 48))]) rfl (by rw [iI_64 (by omega)]) ?_
        refine RQ.seg 1 (pc' := 98) (L' := [some (.ref 80), some (.ref 90), some (.int (iI pl0)), some (.int (iI lo)), some (.int (iI hi)), some (.int (iI (lkm (lk tp (a + 1))))), some (.int (iI (10 * (lkm (lk tp (a + 1)) - 48) + (tch tp (sk tp (a + 1) + 1)) - 48)))]) (st' := [.int (iI hi), .long (lL lo), .long (lL (10 * (lkm (lk tp (a + 1)) - 48) + (tch tp (sk tp (a + 1) + 1)) - 48))]) (g1 := (HW (usc sc 8010 (sk tp (a + 1) + 1 + 1)) ar 81 oc rl ou tl, q)) rfl ?_
        refine RQ.seg 1 (pc' := 99) (L' := [some (.ref 80), some (.ref 90), some (.int (iI pl0)), some (.int (iI lo)), some (.int (iI hi)), some (.int (iI (lkm (lk tp (a + 1))))), some (.int (iI (10 * (lkm (lk tp (a + 1)) - 48) + (tch tp (sk tp (a + 1) + 1)) - 48)))]) (st' := [.long ((iI hi).toInt64), .long (lL lo), .long (lL (10 * (lkm (lk tp (a + 1)) - 48) + (tch tp (sk tp (a + 1) + 1)) - 48))]) (g1 := (HW (usc sc 8010 (sk tp (a + 1) + 1 + 1)) ar 81 oc rl ou tl, q)) rfl ?_
        refine RQ.to (L' := [some (.ref 80), some (.ref 90), some (.int (iI pl0)), some (.int (iI lo)), some (.int (iI hi)), some (.int (iI (lkm (lk tp (a + 1))))), some (.int (iI (10 * (lkm (lk tp (a + 1)) - 48) + (tch tp (sk tp (a + 1) + 1)) - 48)))]) (st' := [.long (lL hi), .long (lL lo), .long (lL (10 * (lkm (lk tp (a + 1)) - 48) + (tch tp (sk tp (a + 1) + 1)) - 48))]) rfl (by rw [iI_64 (by omega)]) ?_
        rcases Decidable.em (lo ≤ 10 * (lkm (lk tp (a + 1)) - 48) + (tch tp (sk tp (a + 1) + 1)) - 48 ∧ 10 * (lkm (lk tp (a + 1)) - 48) + (tch tp (sk tp (a + 1) + 1)) - 48 ≤ hi) with hin | hin
        · skip
          refine RQ.call rfl rfl (CallR.up (d := 1) (m_isIn_t (d := 0) (by omega) (by omega) (by omega) hin) (by omega)) ?_
          refine RQ.seg 4 (pc' := 125) (L' := [some (.ref 80), some (.ref 90), some (.int (iI pl0)), some (.int (iI lo)), some (.int (iI hi)), some (.int (iI (lkm (lk tp (a + 1))))), some (.int (iI (10 * (lkm (lk tp (a + 1)) - 48) + (tch tp (sk tp (a + 1) + 1)) - 48)))]) (st' := [.int (iI (10 * (lkm (lk tp (a + 1)) - 48) + (tch tp (sk tp (a + 1) + 1)) - 48)), .int (iI pl0), .ref 90]) (g1 := (HW (usc sc 8010 (sk tp (a + 1) + 1 + 1)) ar 81 oc rl ou tl, q)) rfl ?_
          refine RQ.iast (z := pl0) (v := (10 * (lkm (lk tp (a + 1)) - 48) + (tch tp (sk tp (a + 1) + 1)) - 48)) (g1 := (HW (usc sc 8010 (sk tp (a + 1) + 1 + 1)) (usc ar 90 (usz (ar 90) pl0 (10 * (lkm (lk tp (a + 1)) - 48) + (tch tp (sk tp (a + 1) + 1)) - 48))) 81 oc rl ou tl, q)) rfl rfl rfl rfl (by omega) (by decide) (HWa_90 rfl) ?_
          refine RQ.ret rfl rfl ?_
          have em : nmn tp 2 (sk tp (a + 1)) 0 = ((tch tp (sk tp (a + 1)) - 48) * 10 + (tch tp (sk tp (a + 1) + 1) - 48), sk tp (a + 1) + 2) := by rw [nmn_2 hd1]; exact if_pos hd2
          have e11 : sk tp (a + 1) + 1 + 1 = sk tp (a + 1) + 2 := by omega
          rw [e11] at hd3
          have en : nmR tp 2 (a + 1) = (-1, (tch tp (sk tp (a + 1)) - 48) * 10 + (tch tp (sk tp (a + 1) + 1) - 48), sk tp (a + 1) + 2) := by unfold nmR; rw [if_pos (show dig (tch tp (sk tp (a + 1))) from hd1), em]; dsimp only; rw [if_neg hd3]
          have ei : itR tp lo hi (a + 1) = (-1, (tch tp (sk tp (a + 1)) - 48) * 10 + (tch tp (sk tp (a + 1) + 1) - 48), sk tp (a + 1) + 2) := by rw [itR_g (by rw [en]) (by rw [en]; dsimp only; omega), en]
          rw [ei]
          have hw9 : (usc sc 8010 (sk tp (a + 1) + 1 + 1)) 8011 = -1 := hf0
          refine ⟨rfl, sk tp (a + 1) + 1 + 1, _, (HW_e (show usc sc 8010 (sk tp (a + 1) + 1 + 1) = usc (usc sc 8010 (sk tp (a + 1) + 1 + 1)) 8011 (-1) by rw [← hw9]; exact (usc_id _ 8011).symm) rfl), ⟨by omega, by omega⟩, fun _ => ?_, fun z => absurd rfl z⟩
          refine ⟨by first | rfl | (dsimp only; omega), ?_⟩
          first | rfl | (dsimp only; congr 1; omega)
        · skip
          refine RQ.call rfl rfl (CallR.up (d := 1) (m_isIn_f (d := 0) (by omega) (by omega) (by omega) hin) (by omega)) ?_
          refine RQ.seg 6 (pc' := 112) (L' := [some (.ref 80), some (.ref 90), some (.int (iI pl0)), some (.int (iI lo)), some (.int (iI hi)), some (.int (iI (lkm (lk tp (a + 1))))), some (.int (iI (10 * (lkm (lk tp (a + 1)) - 48) + (tch tp (sk tp (a + 1) + 1)) - 48)))]) (st' := [.int ((iI (sk tp (a + 1) + 1 + 1)) - (iI 1)), .ref 80]) (g1 := (HW (usc sc 8010 (sk tp (a + 1) + 1 + 1)) ar 81 oc rl ou tl, q)) rfl ?_
          refine RQ.to (L' := [some (.ref 80), some (.ref 90), some (.int (iI pl0)), some (.int (iI lo)), some (.int (iI hi)), some (.int (iI (lkm (lk tp (a + 1))))), some (.int (iI (10 * (lkm (lk tp (a + 1)) - 48) + (tch tp (sk tp (a + 1) + 1)) - 48)))]) (st' := [.int (iI (sk tp (a + 1) + 1 + 1 - 1)), .ref 80]) rfl (by simp only [iI_add, iI_sub, iI_mul, iI_neg]) ?_
          refine RQ.seg 2 (pc' := 116) (L' := [some (.ref 80), some (.ref 90), some (.int (iI pl0)), some (.int (iI lo)), some (.int (iI hi)), some (.int (iI (lkm (lk tp (a + 1))))), some (.int (iI (10 * (lkm (lk tp (a + 1)) - 48) + (tch tp (sk tp (a + 1) + 1)) - 48)))]) (st' := [.ref 80]) (g1 := (HW (usc sc 8010 (sk tp (a + 1) + 1 + 1 - 1)) ar 81 oc rl ou tl, q)) rfl ?_
          have hcall := CallR.up (d' := d + 2) (m_fails (K := K) (d := 0) (tx := 81) (oc := oc) (rl := rl) (ou := ou) (tl := tl) (q := q) (sc := usc sc 8010 (sk tp (a + 1) + 1 + 1 - 1)) (ar := ar) (by show -1 ≤ sc 8011 ∧ sc 8011 ≤ 200; omega)) (by omega)
          rw [show (if (usc sc 8010 (sk tp (a + 1) + 1 + 1 - 1)) 8011 = -1 then (usc sc 8010 (sk tp (a + 1) + 1 + 1 - 1)) 8010 else (usc sc 8010 (sk tp (a + 1) + 1 + 1 - 1)) 8011) = sk tp (a + 1) + 1 + 1 - 1 from if_pos hf0] at hcall
          refine RQ.call rfl rfl hcall ?_
          refine RQ.seg 1 (pc' := 120) (L' := [some (.ref 80), some (.ref 90), some (.int (iI pl0)), some (.int (iI lo)), some (.int (iI hi)), some (.int (iI (lkm (lk tp (a + 1))))), some (.int (iI (10 * (lkm (lk tp (a + 1)) - 48) + (tch tp (sk tp (a + 1) + 1)) - 48)))]) (st' := []) (g1 := (HW (usc (usc sc 8010 (sk tp (a + 1) + 1 + 1 - 1)) 8011 (sk tp (a + 1) + 1 + 1 - 1)) ar 81 oc rl ou tl, q)) rfl ?_
          refine RQ.ret rfl rfl ?_
          have em : nmn tp 2 (sk tp (a + 1)) 0 = ((tch tp (sk tp (a + 1)) - 48) * 10 + (tch tp (sk tp (a + 1) + 1) - 48), sk tp (a + 1) + 2) := by rw [nmn_2 hd1]; exact if_pos hd2
          have e11 : sk tp (a + 1) + 1 + 1 = sk tp (a + 1) + 2 := by omega
          rw [e11] at hd3
          have en : nmR tp 2 (a + 1) = (-1, (tch tp (sk tp (a + 1)) - 48) * 10 + (tch tp (sk tp (a + 1) + 1) - 48), sk tp (a + 1) + 2) := by unfold nmR; rw [if_pos (show dig (tch tp (sk tp (a + 1))) from hd1), em]; dsimp only; rw [if_neg hd3]
          have ei : itR tp lo hi (a + 1) = (sk tp (a + 1) + 2 - 1, (tch tp (sk tp (a + 1)) - 48) * 10 + (tch tp (sk tp (a + 1) + 1) - 48), sk tp (a + 1) + 2) := by rw [itR_o (by rw [en]) (by rw [en]; dsimp only; omega), en]
          rw [ei]
          refine ⟨rfl, sk tp (a + 1) + 1 + 1 - 1, ar 90, ?_, ⟨by omega, by omega⟩, fun z => absurd z (by dsimp only; omega), fun _ => rfl⟩
          exact HW_e (by first | rfl | (dsimp only; congr 1; done) | (dsimp only; congr 1; omega) | (dsimp only; congr 2; done) | (dsimp only; congr 2; omega)) (usc_id ar 90).symm
    · skip
      refine RQ.call rfl rfl (CallR.up (d := 1) (m_dig81f (d := 0) (sc := usc sc 8010 (sk tp (a + 1) + 1)) (ar := ar) (a := sk tp (a + 1) + 1) ht hv rfl (by omega) hd2) (by omega)) ?_
      refine RQ.seg 2 (pc' := 79) (L' := [some (.ref 80), some (.ref 90), some (.int (iI pl0)), some (.int (iI lo)), some (.int (iI hi)), some (.int (iI (lkm (lk tp (a + 1))))), some (.int (iI (lkm (lk tp (a + 1)) - 48)))]) (st' := [.ref 80]) (g1 := (HW (usc sc 8010 (sk tp (a + 1) + 1)) ar 81 oc rl ou tl, q)) rfl ?_
      rcases Decidable.em (dig (tch tp (sk tp (a + 1) + 1))) with hd3 | hd3
      · skip
        refine RQ.call rfl rfl (CallR.up (d := 1) (m_dig81t (d := 0) (sc := usc sc 8010 (sk tp (a + 1) + 1)) (ar := ar) (a := sk tp (a + 1) + 1) ht hv rfl (by omega) hd3) (by omega)) ?_
        have hp3 := tch_pos (tp := tp) (p := sk tp (a + 1) + 1) (by omega)
        refine RQ.seg 2 (pc' := 86) (L' := [some (.ref 80), some (.ref 90), some (.int (iI pl0)), some (.int (iI lo)), some (.int (iI hi)), some (.int (iI (lkm (lk tp (a + 1))))), some (.int (iI (lkm (lk tp (a + 1)) - 48)))]) (st' := [.ref 80]) (g1 := (HW (usc sc 8010 (sk tp (a + 1) + 1)) ar 81 oc rl ou tl, q)) rfl ?_
        have hcall := CallR.up (d' := d + 2) (m_fails (K := K) (d := 0) (tx := 81) (oc := oc) (rl := rl) (ou := ou) (tl := tl) (q := q) (sc := usc sc 8010 (sk tp (a + 1) + 1)) (ar := ar) (by show -1 ≤ sc 8011 ∧ sc 8011 ≤ 200; omega)) (by omega)
        rw [show (if (usc sc 8010 (sk tp (a + 1) + 1)) 8011 = -1 then (usc sc 8010 (sk tp (a + 1) + 1)) 8010 else (usc sc 8010 (sk tp (a + 1) + 1)) 8011) = sk tp (a + 1) + 1 from if_pos hf0] at hcall
        refine RQ.call rfl rfl hcall ?_
        refine RQ.seg 1 (pc' := 90) (L' := [some (.ref 80), some (.ref 90), some (.int (iI pl0)), some (.int (iI lo)), some (.int (iI hi)), some (.int (iI (lkm (lk tp (a + 1))))), some (.int (iI (lkm (lk tp (a + 1)) - 48)))]) (st' := []) (g1 := (HW (usc (usc sc 8010 (sk tp (a + 1) + 1)) 8011 (sk tp (a + 1) + 1)) ar 81 oc rl ou tl, q)) rfl ?_
        refine RQ.ret rfl rfl ?_
        have em : nmn tp 2 (sk tp (a + 1)) 0 = (tch tp (sk tp (a + 1)) - 48, sk tp (a + 1) + 1) := by rw [nmn_2 hd1]; exact if_neg hd2
        have en : nmR tp 2 (a + 1) = (sk tp (a + 1) + 1, tch tp (sk tp (a + 1)) - 48, sk tp (a + 1) + 1) := by unfold nmR; rw [if_pos (show dig (tch tp (sk tp (a + 1))) from hd1), em]; dsimp only; rw [if_pos hd3]
        have ei : itR tp lo hi (a + 1) = (sk tp (a + 1) + 1, tch tp (sk tp (a + 1)) - 48, sk tp (a + 1) + 1) := by rw [itR_n (by rw [en]; show sk tp (a + 1) + 1 ≠ -1; omega), en]
        rw [ei]
        refine ⟨rfl, sk tp (a + 1) + 1, ar 90, ?_, ⟨by omega, by omega⟩, fun z => absurd z (by dsimp only; omega), fun _ => rfl⟩
        exact HW_e (by first | rfl | (dsimp only; congr 1; done) | (dsimp only; congr 1; omega) | (dsimp only; congr 2; done) | (dsimp only; congr 2; omega)) (usc_id ar 90).symm
      · skip
        refine RQ.call rfl rfl (CallR.up (d := 1) (m_dig81f (d := 0) (sc := usc sc 8010 (sk tp (a + 1) + 1)) (ar := ar) (a := sk tp (a + 1) + 1) ht hv rfl (by omega) hd3) (by omega)) ?_
        refine RQ.seg 2 (pc' := 93) (L' := [some (.ref 80), some (.ref 90), some (.int (iI pl0)), some (.int (iI lo)), some (.int (iI hi)), some (.int (iI (lkm (lk tp (a + 1))))), some (.int (iI (lkm (lk tp (a + 1)) - 48)))]) (st' := [.int (iI (lkm (lk tp (a + 1)) - 48))]) (g1 := (HW (usc sc 8010 (sk tp (a + 1) + 1)) ar 81 oc rl ou tl, q)) rfl ?_
        refine RQ.seg 1 (pc' := 94) (L' := [some (.ref 80), some (.ref 90), some (.int (iI pl0)), some (.int (iI lo)), some (.int (iI hi)), some (.int (iI (lkm (lk tp (a + 1))))), some (.int (iI (lkm (lk tp (a + 1)) - 48)))]) (st' := [.long ((iI (lkm (lk tp (a + 1)) - 48)).toInt64)]) (g1 := (HW (usc sc 8010 (sk tp (a + 1) + 1)) ar 81 oc rl ou tl, q)) rfl ?_
        refine RQ.to (L' := [some (.ref 80), some (.ref 90), some (.int (iI pl0)), some (.int (iI lo)), some (.int (iI hi)), some (.int (iI (lkm (lk tp (a + 1))))), some (.int (iI (lkm (lk tp (a + 1)) - 48)))]) (st' := [.long (lL (lkm (lk tp (a + 1)) - 48))]) rfl (by rw [iI_64 (by omega)]) ?_
        refine RQ.seg 1 (pc' := 95) (L' := [some (.ref 80), some (.ref 90), some (.int (iI pl0)), some (.int (iI lo)), some (.int (iI hi)), some (.int (iI (lkm (lk tp (a + 1))))), some (.int (iI (lkm (lk tp (a + 1)) - 48)))]) (st' := [.int (iI lo), .long (lL (lkm (lk tp (a + 1)) - 48))]) (g1 := (HW (usc sc 8010 (sk tp (a + 1) + 1)) ar 81 oc rl ou tl, q)) rfl ?_
        refine RQ.seg 1 (pc' := 96) (L' := [some (.ref 80), some (.ref 90), some (.int (iI pl0)), some (.int (iI lo)), some (.int (iI hi)), some (.int (iI (lkm (lk tp (a + 1))))), some (.int (iI (lkm (lk tp (a + 1)) - 48)))]) (st' := [.long ((iI lo).toInt64), .long (lL (lkm (lk tp (a + 1)) - 48))]) (g1 := (HW (usc sc 8010 (sk tp (a + 1) + 1)) ar 81 oc rl ou tl, q)) rfl ?_
        refine RQ.to (L' := [some (.ref 80), some (.ref 90), some (.int (iI pl0)), some (.int (iI lo)), some (.int (iI hi)), some (.int (iI (lkm (lk tp (a + 1))))), some (.int (iI (lkm (lk tp (a + 1)) - 48)))]) (st' := [.long (lL lo), .long (lL (lkm (lk tp (a + 1)) - 48))]) rfl (by rw [iI_64 (by omega)]) ?_
        refine RQ.seg 1 (pc' := 98) (L' := [some (.ref 80), some (.ref 90), some (.int (iI pl0)), some (.int (iI lo)), some (.int (iI hi)), some (.int (iI (lkm (lk tp (a + 1))))), some (.int (iI (lkm (lk tp (a + 1)) - 48)))]) (st' := [.int (iI hi), .long (lL lo), .long (lL (lkm (lk tp (a + 1)) - 48))]) (g1 := (HW (usc sc 8010 (sk tp (a + 1) + 1)) ar 81 oc rl ou tl, q)) rfl ?_
        refine RQ.seg 1 (pc' := 99) (L' := [some (.ref 80), some (.ref 90), some (.int (iI pl0)), some (.int (iI lo)), some (.int (iI hi)), some (.int (iI (lkm (lk tp (a + 1))))), some (.int (iI (lkm (lk tp (a + 1)) - 48)))]) (st' := [.long ((iI hi).toInt64), .long (lL lo), .long (lL (lkm (lk tp (a + 1)) - 48))]) (g1 := (HW (usc sc 8010 (sk tp (a + 1) + 1)) ar 81 oc rl ou tl, q)) rfl ?_
        refine RQ.to (L' := [some (.ref 80), some (.ref 90), some (.int (iI pl0)), some (.int (iI lo)), some (.int (iI hi)), some (.int (iI (lkm (lk tp (a + 1))))), some (.int (iI (lkm (lk tp (a + 1)) - 48)))]) (st' := [.long (lL hi), .long (lL lo), .long (lL (lkm (lk tp (a + 1)) - 48))]) rfl (by rw [iI_64 (by omega)]) ?_
        rcases Decidable.em (lo ≤ lkm (lk tp (a + 1)) - 48 ∧ lkm (lk tp (a + 1)) - 48 ≤ hi) with hin | hin
        · skip
          refine RQ.call rfl rfl (CallR.up (d := 1) (m_isIn_t (d := 0) (by omega) (by omega) (by omega) hin) (by omega)) ?_
          refine RQ.seg 4 (pc' := 125) (L' := [some (.ref 80), some (.ref 90), some (.int (iI pl0)), some (.int (iI lo)), some (.int (iI hi)), some (.int (iI (lkm (lk tp (a + 1))))), some (.int (iI (lkm (lk tp (a + 1)) - 48)))]) (st' := [.int (iI (lkm (lk tp (a + 1)) - 48)), .int (iI pl0), .ref 90]) (g1 := (HW (usc sc 8010 (sk tp (a + 1) + 1)) ar 81 oc rl ou tl, q)) rfl ?_
          refine RQ.iast (z := pl0) (v := (lkm (lk tp (a + 1)) - 48)) (g1 := (HW (usc sc 8010 (sk tp (a + 1) + 1)) (usc ar 90 (usz (ar 90) pl0 (lkm (lk tp (a + 1)) - 48))) 81 oc rl ou tl, q)) rfl rfl rfl rfl (by omega) (by decide) (HWa_90 rfl) ?_
          refine RQ.ret rfl rfl ?_
          have em : nmn tp 2 (sk tp (a + 1)) 0 = (tch tp (sk tp (a + 1)) - 48, sk tp (a + 1) + 1) := by rw [nmn_2 hd1]; exact if_neg hd2
          have en : nmR tp 2 (a + 1) = (-1, tch tp (sk tp (a + 1)) - 48, sk tp (a + 1) + 1) := by unfold nmR; rw [if_pos (show dig (tch tp (sk tp (a + 1))) from hd1), em]; dsimp only; rw [if_neg hd3]
          have ei : itR tp lo hi (a + 1) = (-1, tch tp (sk tp (a + 1)) - 48, sk tp (a + 1) + 1) := by rw [itR_g (by rw [en]) (by rw [en]; dsimp only; omega), en]
          rw [ei]
          have hw9 : (usc sc 8010 (sk tp (a + 1) + 1)) 8011 = -1 := hf0
          refine ⟨rfl, sk tp (a + 1) + 1, _, (HW_e (show usc sc 8010 (sk tp (a + 1) + 1) = usc (usc sc 8010 (sk tp (a + 1) + 1)) 8011 (-1) by rw [← hw9]; exact (usc_id _ 8011).symm) rfl), ⟨by omega, by omega⟩, fun _ => ?_, fun z => absurd rfl z⟩
          refine ⟨by first | rfl | (dsimp only; omega), ?_⟩
          first | rfl | (dsimp only; congr 1; omega)
        · skip
          refine RQ.call rfl rfl (CallR.up (d := 1) (m_isIn_f (d := 0) (by omega) (by omega) (by omega) hin) (by omega)) ?_
          refine RQ.seg 6 (pc' := 112) (L' := [some (.ref 80), some (.ref 90), some (.int (iI pl0)), some (.int (iI lo)), some (.int (iI hi)), some (.int (iI (lkm (lk tp (a + 1))))), some (.int (iI (lkm (lk tp (a + 1)) - 48)))]) (st' := [.int ((iI (sk tp (a + 1) + 1)) - (iI 1)), .ref 80]) (g1 := (HW (usc sc 8010 (sk tp (a + 1) + 1)) ar 81 oc rl ou tl, q)) rfl ?_
          refine RQ.to (L' := [some (.ref 80), some (.ref 90), some (.int (iI pl0)), some (.int (iI lo)), some (.int (iI hi)), some (.int (iI (lkm (lk tp (a + 1))))), some (.int (iI (lkm (lk tp (a + 1)) - 48)))]) (st' := [.int (iI (sk tp (a + 1) + 1 - 1)), .ref 80]) rfl (by simp only [iI_add, iI_sub, iI_mul, iI_neg]) ?_
          refine RQ.seg 2 (pc' := 116) (L' := [some (.ref 80), some (.ref 90), some (.int (iI pl0)), some (.int (iI lo)), some (.int (iI hi)), some (.int (iI (lkm (lk tp (a + 1))))), some (.int (iI (lkm (lk tp (a + 1)) - 48)))]) (st' := [.ref 80]) (g1 := (HW (usc sc 8010 (sk tp (a + 1) + 1 - 1)) ar 81 oc rl ou tl, q)) rfl ?_
          have hcall := CallR.up (d' := d + 2) (m_fails (K := K) (d := 0) (tx := 81) (oc := oc) (rl := rl) (ou := ou) (tl := tl) (q := q) (sc := usc sc 8010 (sk tp (a + 1) + 1 - 1)) (ar := ar) (by show -1 ≤ sc 8011 ∧ sc 8011 ≤ 200; omega)) (by omega)
          rw [show (if (usc sc 8010 (sk tp (a + 1) + 1 - 1)) 8011 = -1 then (usc sc 8010 (sk tp (a + 1) + 1 - 1)) 8010 else (usc sc 8010 (sk tp (a + 1) + 1 - 1)) 8011) = sk tp (a + 1) + 1 - 1 from if_pos hf0] at hcall
          refine RQ.call rfl rfl hcall ?_
          refine RQ.seg 1 (pc' := 120) (L' := [some (.ref 80), some (.ref 90), some (.int (iI pl0)), some (.int (iI lo)), some (.int (iI hi)), some (.int (iI (lkm (lk tp (a + 1))))), some (.int (iI (lkm (lk tp (a + 1)) - 48)))]) (st' := []) (g1 := (HW (usc (usc sc 8010 (sk tp (a + 1) + 1 - 1)) 8011 (sk tp (a + 1) + 1 - 1)) ar 81 oc rl ou tl, q)) rfl ?_
          refine RQ.ret rfl rfl ?_
          have em : nmn tp 2 (sk tp (a + 1)) 0 = (tch tp (sk tp (a + 1)) - 48, sk tp (a + 1) + 1) := by rw [nmn_2 hd1]; exact if_neg hd2
          have en : nmR tp 2 (a + 1) = (-1, tch tp (sk tp (a + 1)) - 48, sk tp (a + 1) + 1) := by unfold nmR; rw [if_pos (show dig (tch tp (sk tp (a + 1))) from hd1), em]; dsimp only; rw [if_neg hd3]
          have ei : itR tp lo hi (a + 1) = (sk tp (a + 1) + 1 - 1, tch tp (sk tp (a + 1)) - 48, sk tp (a + 1) + 1) := by rw [itR_o (by rw [en]) (by rw [en]; dsimp only; omega), en]
          rw [ei]
          refine ⟨rfl, sk tp (a + 1) + 1 - 1, ar 90, ?_, ⟨by omega, by omega⟩, fun z => absurd z (by dsimp only; omega), fun _ => rfl⟩
          exact HW_e (by first | rfl | (dsimp only; congr 1; done) | (dsimp only; congr 1; omega) | (dsimp only; congr 2; done) | (dsimp only; congr 2; omega)) (usc_id ar 90).symm
  · skip
    refine RQ.call rfl rfl (CallR.up (d := 1) (m_dig81f (d := 0) (sc := usc sc 8010 (sk tp (a + 1))) (ar := ar) (a := sk tp (a + 1)) ht hv rfl (by omega) hd1) (by omega)) ?_
    refine RQ.seg 2 (pc' := 24) (L' := [some (.ref 80), some (.ref 90), some (.int (iI pl0)), some (.int (iI lo)), some (.int (iI hi)), some (.int (iI (lkm (lk tp (a + 1))))), none]) (st' := [.ref 80]) (g1 := (HW (usc sc 8010 (sk tp (a + 1))) ar 81 oc rl ou tl, q)) rfl ?_
    have hcall := CallR.up (d' := d + 2) (m_fails (K := K) (d := 0) (tx := 81) (oc := oc) (rl := rl) (ou := ou) (tl := tl) (q := q) (sc := usc sc 8010 (sk tp (a + 1))) (ar := ar) (by show -1 ≤ sc 8011 ∧ sc 8011 ≤ 200; omega)) (by omega)
    rw [show (if (usc sc 8010 (sk tp (a + 1))) 8011 = -1 then (usc sc 8010 (sk tp (a + 1))) 8010 else (usc sc 8010 (sk tp (a + 1))) 8011) = sk tp (a + 1) from if_pos hf0] at hcall
    refine RQ.call rfl rfl hcall ?_
    refine RQ.seg 1 (pc' := 28) (L' := [some (.ref 80), some (.ref 90), some (.int (iI pl0)), some (.int (iI lo)), some (.int (iI hi)), some (.int (iI (lkm (lk tp (a + 1))))), none]) (st' := []) (g1 := (HW (usc (usc sc 8010 (sk tp (a + 1))) 8011 (sk tp (a + 1))) ar 81 oc rl ou tl, q)) rfl ?_
    refine RQ.ret rfl rfl ?_
    have en : nmR tp 2 (a + 1) = (sk tp (a + 1), 0, sk tp (a + 1)) := by unfold nmR; exact if_neg hd1
    have ei : itR tp lo hi (a + 1) = (sk tp (a + 1), 0, sk tp (a + 1)) := by rw [itR_n (by rw [en]; show sk tp (a + 1) ≠ -1; omega), en]
    rw [ei]
    refine ⟨rfl, sk tp (a + 1), ar 90, ?_, ⟨by omega, by omega⟩, fun z => absurd z (by dsimp only; omega), fun _ => rfl⟩
    exact HW_e (by first | rfl | (dsimp only; congr 1; done) | (dsimp only; congr 1; omega) | (dsimp only; congr 2; done) | (dsimp only; congr 2; omega)) (usc_id ar 90).symm
