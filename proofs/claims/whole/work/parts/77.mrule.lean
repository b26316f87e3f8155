/-! the reference reads a rule: small things, by wip/tools -/
/-! the reference reads a rule: small things -/
def muF : List Nat := [8010, 8011, 8012]
/-- the state of the reference's reader as a reading's outcome -/
def MX (tp : List Int) (bg N : Int) (r : RS) (dp : Int) (sc : Nat → Int) (f : Int → Int) : Prop := TvM tp bg N (sc 8008) (sc 8009) f ∧ (0 ≤ sc 8010 ∧ sc 8010 ≤ (tp.length : Int)) ∧ sc 8011 = r.1 ∧ (-1 ≤ r.1 ∧ r.1 ≤ 160) ∧ (dp ≤ sc 8012 ∧ sc 8012 ≤ 6) ∧ (r.1 = -1 → sc 8010 = r.2.1 ∧ sc 8012 = dp)
def v10 (i v : Int) : Prop := 0 ≤ v ∧ (i = 0 → v < 1) ∧ (i = 1 → v < 10) ∧ (i = 2 → v < 100) ∧ (i = 3 → v < 1000) ∧ (i = 4 → v < 10000)
theorem v10_s {i v x : Int} (hi : 0 ≤ i ∧ i < 4) (h : v10 i v) (hx : 0 ≤ x ∧ x ≤ 9) : v10 (i + 1) (v * 10 + x) := by
  unfold v10 at *
  omega
theorem m_isSign_t {K : PK} {d : Nat} {g : PG} {c : Int} (rc : -2147483648 ≤ c ∧ c < 2147483648) (hc : pcm c ≠ -1) : CallR K (d + 1) 166 [.int (iI c)] g (some (.int (iI 1))) g := by
  apply CQ.x
  have hpc : (c = 61 ∨ c = 60 ∨ c = 62) ↔ pcm c ≠ -1 := by unfold pcm; (repeat split) <;> omega
  refine CQ.of (own := 11) (n := 1) (ini := false) (rt := (some .boolean)) (cd := cd166) (by decide +kernel) rfl (by decide +kernel) rfl (Nat.le_of_ble_eq_true rfl) ?_
  refine RQ.seg 2 (pc' := 3) (L' := [some (.int (iI c))]) (st' := [.int (iI 61), .int (iI c)]) (g1 := g) rfl ?_
  refine RQ.if2 (a := c) (b := 61) rfl rfl rfl rfl (by omega) (by omega) (fun (h1 : c = 61) => ?_) (fun (h1 : ¬ c = 61) => ?_)
  · skip
    refine RQ.seg 2 (pc' := 23) (L' := [some (.int (iI c))]) (st' := [.int (iI 1)]) (g1 := g) rfl ?_
    refine RQ.ret rfl rfl ?_
    first | exact ⟨rfl, rfl⟩ | (exfalso; omega)
  · skip
    refine RQ.seg 2 (pc' := 9) (L' := [some (.int (iI c))]) (st' := [.int (iI 60), .int (iI c)]) (g1 := g) rfl ?_
    refine RQ.if2 (a := c) (b := 60) rfl rfl rfl rfl (by omega) (by omega) (fun (h2 : c = 60) => ?_) (fun (h2 : ¬ c = 60) => ?_)
    · skip
      refine RQ.seg 2 (pc' := 23) (L' := [some (.int (iI c))]) (st' := [.int (iI 1)]) (g1 := g) rfl ?_
      refine RQ.ret rfl rfl ?_
      first | exact ⟨rfl, rfl⟩ | (exfalso; omega)
    · skip
      refine RQ.seg 2 (pc' := 15) (L' := [some (.int (iI c))]) (st' := [.int (iI 62), .int (iI c)]) (g1 := g) rfl ?_
      refine RQ.if2 (a := c) (b := 62) rfl rfl rfl rfl (by omega) (by omega) (fun (h3 : c ≠ 62) => ?_) (fun (h3 : ¬ c ≠ 62) => ?_)
      · skip
        refine RQ.seg 1 (pc' := 23) (L' := [some (.int (iI c))]) (st' := [.int (iI 0)]) (g1 := g) rfl ?_
        refine RQ.ret rfl rfl ?_
        first | exact ⟨rfl, rfl⟩ | (exfalso; omega)
      · skip
        refine RQ.seg 2 (pc' := 23) (L' := [some (.int (iI c))]) (st' := [.int (iI 1)]) (g1 := g) rfl ?_
        refine RQ.ret rfl rfl ?_
        first | exact ⟨rfl, rfl⟩ | (exfalso; omega)
theorem m_isSign_f {K : PK} {d : Nat} {g : PG} {c : Int} (rc : -2147483648 ≤ c ∧ c < 2147483648) (hc : ¬ pcm c ≠ -1) : CallR K (d + 1) 166 [.int (iI c)] g (some (.int (iI 0))) g := by
  apply CQ.x
  have hpc : (c = 61 ∨ c = 60 ∨ c = 62) ↔ pcm c ≠ -1 := by unfold pcm; (repeat split) <;> omega
  refine CQ.of (own := 11) (n := 1) (ini := false) (rt := (some .boolean)) (cd := cd166) (by decide +kernel) rfl (by decide +kernel) rfl (Nat.le_of_ble_eq_true rfl) ?_
  refine RQ.seg 2 (pc' := 3) (L' := [some (.int (iI c))]) (st' := [.int (iI 61), .int (iI c)]) (g1 := g) rfl ?_
  refine RQ.if2 (a := c) (b := 61) rfl rfl rfl rfl (by omega) (by omega) (fun (h1 : c = 61) => ?_) (fun (h1 : ¬ c = 61) => ?_)
  · skip
    refine RQ.seg 2 (pc' := 23) (L' := [some (.int (iI c))]) (st' := [.int (iI 1)]) (g1 := g) rfl ?_
    refine RQ.ret rfl rfl ?_
    first | exact ⟨rfl, rfl⟩ | (exfalso; omega)
  · skip
    refine RQ.seg 2 (pc' := 9) (L' := [some (.int (iI c))]) (st' := [.int (iI 60), .int (iI c)]) (g1 := g) rfl ?_
    refine RQ.if2 (a := c) (b := 60) rfl rfl rfl rfl (by omega) (by omega) (fun (h2 : c = 60) => ?_) (fun (h2 : ¬ c = 60) => ?_)
    · skip
      refine RQ.seg 2 (pc' := 23) (L' := [some (.int (iI c))]) (st' := [.int (iI 1)]) (g1 := g) rfl ?_
      refine RQ.ret rfl rfl ?_
      first | exact ⟨rfl, rfl⟩ | (exfalso; omega)
    · skip
      refine RQ.seg 2 (pc' := 15) (L' := [some (.int (iI c))]) (st' := [.int (iI 62), .int (iI c)]) (g1 := g) rfl ?_
      refine RQ.if2 (a := c) (b := 62) rfl rfl rfl rfl (by omega) (by omega) (fun (h3 : c ≠ 62) => ?_) (fun (h3 : ¬ c ≠ 62) => ?_)
      · skip
        refine RQ.seg 1 (pc' := 23) (L' := [some (.int (iI c))]) (st' := [.int (iI 0)]) (g1 := g) rfl ?_
        refine RQ.ret rfl rfl ?_
        first | exact ⟨rfl, rfl⟩ | (exfalso; omega)
      · skip
        refine RQ.seg 2 (pc' := 23) (L' := [some (.int (iI c))]) (st' := [.int (iI 1)]) (g1 := g) rfl ?_
        refine RQ.ret rfl rfl ?_
        first | exact ⟨rfl, rfl⟩ | (exfalso; omega)
theorem m_goes81t {K : PK} {d : Nat} {sc : Nat → Int} {ar : Nat → Int → Int} {oc : Nat} {rl : Nat → Option Nat} {ou : Nat → Int64} {tl : List PO} {q : Nat × Nat} {dp : Int} (hdp : sc 8012 = dp) (rdp : 0 ≤ dp ∧ dp ≤ 6) (ra : 0 ≤ sc 8010 ∧ sc 8010 ≤ 160) (hw : sc 8011 = -1) (hd : dp < 6) : CallR K (d + 2) 159 [.ref 80] (HW sc ar 81 oc rl ou tl, q) (some (.int (iI 1))) (HW (usc (usc sc 8010 (sc 8010 + 1)) 8012 (dp + 1)) ar 81 oc rl ou tl, q) := by
  apply CQ.x
  refine CQ.of (own := 11) (n := 1) (ini := false) (rt := (some .boolean)) (cd := cd159) (by decide +kernel) rfl (by decide +kernel) rfl (Nat.le_of_ble_eq_true rfl) ?_
  refine RQ.seg 2 (pc' := 4) (L' := [some (.ref 80)]) (st' := [.int (iI (sc 8012))]) (g1 := (HW sc ar 81 oc rl ou tl, q)) rfl ?_
  refine RQ.to (L' := [some (.ref 80)]) (st' := [.int (iI dp)]) rfl (by rw [show sc 8012 = dp from hdp]) ?_
  refine RQ.seg 1 (pc' := 6) (L' := [some (.ref 80)]) (st' := [.int (iI 6), .int (iI dp)]) (g1 := (HW sc ar 81 oc rl ou tl, q)) rfl ?_
  refine RQ.if2 (a := dp) (b := 6) rfl rfl rfl rfl (by omega) (by omega) (fun _ => ?_) (fun (q : ¬ dp ≠ 6) => absurd (show dp ≠ 6 from by omega) q)
  refine RQ.seg 3 (pc' := 19) (L' := [some (.ref 80)]) (st' := [.int (iI (sc 8012)), .ref 80]) (g1 := (HW sc ar 81 oc rl ou tl, q)) rfl ?_
  refine RQ.to (L' := [some (.ref 80)]) (st' := [.int (iI dp), .ref 80]) rfl (by rw [show sc 8012 = dp from hdp]) ?_
  refine RQ.seg 2 (pc' := 21) (L' := [some (.ref 80)]) (st' := [.int ((iI dp) + (iI 1)), .ref 80]) (g1 := (HW sc ar 81 oc rl ou tl, q)) rfl ?_
  refine RQ.to (L' := [some (.ref 80)]) (st' := [.int (iI (dp + 1)), .ref 80]) rfl (by simp only [iI_add, iI_sub, iI_mul, iI_neg]) ?_
  refine RQ.seg 6 (pc' := 31) (L' := [some (.ref 80)]) (st' := [.int ((iI (sc 8010)) + (iI 1)), .ref 80]) (g1 := (HW (usc sc 8012 (dp + 1)) ar 81 oc rl ou tl, q)) rfl ?_
  refine RQ.to (L' := [some (.ref 80)]) (st' := [.int (iI (sc 8010 + 1)), .ref 80]) rfl (by simp only [iI_add, iI_sub, iI_mul, iI_neg]) ?_
  refine RQ.seg 2 (pc' := 35) (L' := [some (.ref 80)]) (st' := [.int (iI 1)]) (g1 := (HW (usc (usc sc 8010 (sc 8010 + 1)) 8012 (dp + 1)) ar 81 oc rl ou tl, q)) rfl ?_
  refine RQ.ret rfl rfl ?_
  exact ⟨rfl, rfl⟩
theorem m_goes81f {K : PK} {d : Nat} {sc : Nat → Int} {ar : Nat → Int → Int} {oc : Nat} {rl : Nat → Option Nat} {ou : Nat → Int64} {tl : List PO} {q : Nat × Nat} {dp : Int} (hdp : sc 8012 = dp) (rdp : 0 ≤ dp ∧ dp ≤ 6) (ra : 0 ≤ sc 8010 ∧ sc 8010 ≤ 160) (hw : sc 8011 = -1) (hd : ¬ dp < 6) : CallR K (d + 2) 159 [.ref 80] (HW sc ar 81 oc rl ou tl, q) (some (.int (iI 0))) (HW (usc sc 8011 (sc 8010)) ar 81 oc rl ou tl, q) := by
  apply CQ.x
  refine CQ.of (own := 11) (n := 1) (ini := false) (rt := (some .boolean)) (cd := cd159) (by decide +kernel) rfl (by decide +kernel) rfl (Nat.le_of_ble_eq_true rfl) ?_
  refine RQ.seg 2 (pc' := 4) (L' := [some (.ref 80)]) (st' := [.int (iI (sc 8012))]) (g1 := (HW sc ar 81 oc rl ou tl, q)) rfl ?_
  refine RQ.to (L' := [some (.ref 80)]) (st' := [.int (iI dp)]) rfl (by rw [show sc 8012 = dp from hdp]) ?_
  refine RQ.seg 1 (pc' := 6) (L' := [some (.ref 80)]) (st' := [.int (iI 6), .int (iI dp)]) (g1 := (HW sc ar 81 oc rl ou tl, q)) rfl ?_
  refine RQ.if2 (a := dp) (b := 6) rfl rfl rfl rfl (by omega) (by omega) (fun (q : dp ≠ 6) => absurd q (show ¬ dp ≠ 6 from by omega)) (fun _ => ?_)
  refine RQ.seg 1 (pc' := 10) (L' := [some (.ref 80)]) (st' := [.ref 80]) (g1 := (HW sc ar 81 oc rl ou tl, q)) rfl ?_
  have hcall := m_fails (K := K) (d := d) (tx := 81) (oc := oc) (rl := rl) (ou := ou) (tl := tl) (q := q) (sc := sc) (ar := ar) (by omega)
  rw [if_pos hw] at hcall
  refine RQ.call rfl rfl hcall ?_
  refine RQ.ret rfl rfl ?_
  exact ⟨rfl, rfl⟩
theorem m_takes81 {K : PK} {d : Nat} {sc : Nat → Int} {ar : Nat → Int → Int} {oc : Nat} {rl : Nat → Option Nat} {ou : Nat → Int64} {tl : List PO} {q : Nat × Nat} {tp : List Int} {bg : Int} (ht : TpOK tp) {r : RS} {dp c : Int} (hM : MX tp bg 160 r dp sc (ar 81)) (rc : 1 ≤ c ∧ c ≤ 255) : CQ K (d + 2) 160 [.ref 80, .int (iI c)] (HW sc ar 81 oc rl ou tl, q) (fun v g' => v = some (.int (iI (if (rsq r (rex tp c)).1 = -1 then 1 else 0))) ∧ ∃ sc', g' = (HW sc' ar 81 oc rl ou tl, q) ∧ Same muF sc sc' ∧ MX tp bg 160 (rsq r (rex tp c)) dp sc' (ar 81)) := by
  have ht1 := ht.1
  obtain ⟨hv, hA, hW, hWr, hD, hG⟩ := id hM
  refine CQ.of (own := 11) (n := 2) (ini := false) (rt := (some .boolean)) (cd := cd160) (by decide +kernel) rfl (by decide +kernel) rfl (Nat.le_of_ble_eq_true rfl) ?_
  rcases Decidable.em (r.1 = -1) with he | hE
  · skip
    obtain ⟨g1, g2⟩ := hG he
    have hw1 : sc 8011 = -1 := hW.trans he
    have hsk := sk_r (tp := tp) (p := r.2.1) (by omega)
    have hlk : 0 ≤ lk tp r.2.1 ∧ lk tp r.2.1 ≤ 255 := tch_r ht (sk tp r.2.1)
    have hlm := lkm_r hlk
    refine RQ.seg 3 (pc' := 5) (L' := [some (.ref 80), some (.int (iI c))]) (st' := [.int (iI (-1)), .int (iI (sc 8011))]) (g1 := (HW sc ar 81 oc rl ou tl, q)) rfl ?_
    refine RQ.if2 (a := (sc 8011)) (b := (-1)) rfl rfl rfl rfl (by omega) (by omega) (fun (q : sc 8011 ≠ (-1)) => absurd q (show ¬ sc 8011 ≠ (-1) from by omega)) (fun _ => ?_)
    refine RQ.seg 1 (pc' := 9) (L' := [some (.ref 80), some (.int (iI c))]) (st' := [.ref 80]) (g1 := (HW sc ar 81 oc rl ou tl, q)) rfl ?_
    refine RQ.call rfl rfl (m_look81 (d := d) (sc := sc) (ar := ar) (a := r.2.1) ht hv g1 (by omega)) ?_
    refine RQ.seg 1 (pc' := 13) (L' := [some (.ref 80), some (.int (iI c))]) (st' := [.int (iI c), .int (iI (lkm (lk tp r.2.1)))]) (g1 := (HW (usc sc 8010 (sk tp r.2.1)) ar 81 oc rl ou tl, q)) rfl ?_
    refine RQ.if2 (a := (lkm (lk tp r.2.1))) (b := c) rfl rfl rfl rfl (by omega) (by omega) (fun (h2 : lkm (lk tp r.2.1) = c) => ?_) (fun (h2 : ¬ lkm (lk tp r.2.1) = c) => ?_)
    · skip
      refine RQ.seg 5 (pc' := 28) (L' := [some (.ref 80), some (.int (iI c))]) (st' := [.int ((iI (sk tp r.2.1)) + (iI 1)), .ref 80]) (g1 := (HW (usc sc 8010 (sk tp r.2.1)) ar 81 oc rl ou tl, q)) rfl ?_
      refine RQ.to (L' := [some (.ref 80), some (.int (iI c))]) (st' := [.int (iI (sk tp r.2.1 + 1)), .ref 80]) rfl (by simp only [iI_add, iI_sub, iI_mul, iI_neg]) ?_
      refine RQ.seg 2 (pc' := 32) (L' := [some (.ref 80), some (.int (iI c))]) (st' := [.int (iI 1)]) (g1 := (HW (usc sc 8010 (sk tp r.2.1 + 1)) ar 81 oc rl ou tl, q)) rfl ?_
      refine RQ.ret rfl rfl ?_
      have hps := lk_in (tp := tp) (a := r.2.1) (by omega) (by omega)
      have eT : rsq r (rex tp c) = pre r.2.2 (-1, sk tp r.2.1 + 1, []) := by rw [rsq_p he]; unfold rex; rw [if_pos (by omega)]
      rw [eT]
      exact ⟨by rw [if_pos (show (pre r.2.2 (-1, sk tp r.2.1 + 1, [])).1 = -1 from rfl)], _, rfl, (by repeat (first | exact Same.rf | refine Same.us rfl ?_)), hv, by show 0 ≤ sk tp r.2.1 + 1 ∧ sk tp r.2.1 + 1 ≤ _; omega, hw1, by show (-1 : Int) ≤ -1 ∧ (-1 : Int) ≤ 160; omega, hD, fun _ => ⟨rfl, g2⟩⟩
    · skip
      refine RQ.seg 1 (pc' := 17) (L' := [some (.ref 80), some (.int (iI c))]) (st' := [.ref 80]) (g1 := (HW (usc sc 8010 (sk tp r.2.1)) ar 81 oc rl ou tl, q)) rfl ?_
      have hcall := m_fails (K := K) (d := d) (tx := 81) (oc := oc) (rl := rl) (ou := ou) (tl := tl) (q := q) (sc := usc sc 8010 (sk tp r.2.1)) (ar := ar) (by show -1 ≤ sc 8011 ∧ sc 8011 ≤ 200; omega)
      rw [show (if (usc sc 8010 (sk tp r.2.1)) 8011 = -1 then (usc sc 8010 (sk tp r.2.1)) 8010 else (usc sc 8010 (sk tp r.2.1)) 8011) = sk tp r.2.1 from if_pos (show sc 8011 = -1 by omega)] at hcall
      refine RQ.call rfl rfl hcall ?_
      refine RQ.ret rfl rfl ?_
      have eT : rsq r (rex tp c) = pre r.2.2 (rno tp r.2.1) := by rw [rsq_p he]; unfold rex; rw [if_neg (by omega)]
      rw [eT, if_neg (by show ¬ sk tp r.2.1 = -1; omega)]
      exact ⟨rfl, _, rfl, (by repeat (first | exact Same.rf | refine Same.us rfl ?_)), hv, by show 0 ≤ sk tp r.2.1 ∧ sk tp r.2.1 ≤ _; omega, rfl, by show -1 ≤ sk tp r.2.1 ∧ sk tp r.2.1 ≤ 160; omega, hD, fun z => absurd (show sk tp r.2.1 = -1 from z) (by omega)⟩
  · have hw1 : ¬ sc 8011 = -1 := by omega
    refine RQ.seg 3 (pc' := 5) (L' := [some (.ref 80), some (.int (iI c))]) (st' := [.int (iI (-1)), .int (iI (sc 8011))]) (g1 := (HW sc ar 81 oc rl ou tl, q)) rfl ?_
    refine RQ.if2 (a := (sc 8011)) (b := (-1)) rfl rfl rfl rfl (by omega) (by omega) (fun _ => ?_) (fun (q : ¬ sc 8011 ≠ (-1)) => absurd (show sc 8011 ≠ (-1) from by omega) q)
    refine RQ.seg 1 (pc' := 17) (L' := [some (.ref 80), some (.int (iI c))]) (st' := [.ref 80]) (g1 := (HW sc ar 81 oc rl ou tl, q)) rfl ?_
    have hcall := m_fails (K := K) (d := d) (tx := 81) (oc := oc) (rl := rl) (ou := ou) (tl := tl) (q := q) (sc := sc) (ar := ar) (by show -1 ≤ sc 8011 ∧ sc 8011 ≤ 200; omega)
    rw [show (if (sc) 8011 = -1 then (sc) 8010 else (sc) 8011) = sc 8011 from if_neg (show ¬ sc 8011 = -1 by omega)] at hcall
    refine RQ.call rfl rfl hcall ?_
    refine RQ.ret rfl rfl ?_
    rw [rsq_b hE, if_neg hE]
    exact ⟨rfl, _, rfl, (by repeat (first | exact Same.rf | refine Same.us rfl ?_)), hv, hA, hW, hWr, hD, fun z => absurd z hE⟩
theorem m_dg81_l {K : PK} {d : Nat} {sc : Nat → Int} {ar : Nat → Int → Int} {oc : Nat} {rl : Nat → Option Nat} {ou : Nat → Int64} {tl : List PO} {q : Nat × Nat} {Q : Option Value → PG → Prop} {tp : List Int} {bg : Int} (ht : TpOK tp) (hv : TvM tp bg 160 (sc 8008) (sc 8009) (ar 81)) {c1 : Int} (h0 : sc 8011 = -1) : ∀ (m : Nat) (i p v : Int) (hm : i + m = 4) (hi : 0 ≤ i) (hp : 0 ≤ p ∧ p ≤ (tp.length : Int)) (hv0 : v10 i v) (hk1 : ¬ dig (tch tp (nmn tp m p v).2) → Q (some (.int (iI (nmn tp m p v).1))) (HW (usc sc 8010 ((nmn tp m p v).2)) ar 81 oc rl ou tl, q)) (hk2 : dig (tch tp (nmn tp m p v).2) → Q (some (.int (iI 0))) (HW (usc (usc sc 8010 ((nmn tp m p v).2)) 8011 ((nmn tp m p v).2)) ar 81 oc rl ou tl, q)), RQ K (d + 1) 11 false (some .int) cd163 90 [some (.ref 80), some (.int (iI c1)), some (.int (iI v)), some (.int (iI i))] [] (HW (usc sc 8010 p) ar 81 oc rl ou tl, q) Q
  | 0, i, p, v, hm, hi, hp, hv0, hk1, hk2 => by
    have ht1 := ht.1
    obtain ⟨hv1, hv2, hv3, hv4⟩ := id hv
    have hvv : 0 ≤ v ∧ v ≤ 9999 := by unfold v10 at hv0; omega
    refine RQ.seg 1 (pc' := 91) (L' := [some (.ref 80), some (.int (iI c1)), some (.int (iI v)), some (.int (iI i))]) (st' := [.ref 80]) (g1 := (HW (usc sc 8010 p) ar 81 oc rl ou tl, q)) rfl ?_
    rcases Decidable.em (dig (tch tp p)) with hdg | hdg
    · skip
      have htp := tch_pos (tp := tp) (p := p) (by omega)
      have hti := tch_in htp
      have hsg := sgb_r (ht.2 p htp.1 htp.2)
      have hsv : sgb (lat tp p) = tch tp p := by rw [hti]; unfold sgb; rw [if_pos (by omega)]
      refine RQ.call rfl rfl (m_dig81t (d := d) (sc := usc sc 8010 p) (ar := ar) (a := p) ht hv rfl hp hdg) ?_
      refine RQ.seg 4 (pc' := 102) (L' := [some (.ref 80), some (.int (iI c1)), some (.int (iI v)), some (.int (iI i))]) (st' := [.int (iI (-1)), .int (iI (sc 8011))]) (g1 := (HW (usc sc 8010 p) ar 81 oc rl ou tl, q)) rfl ?_
      refine RQ.if2 (a := (sc 8011)) (b := (-1)) rfl rfl rfl rfl (by omega) (by omega) (fun (q : sc 8011 ≠ (-1)) => absurd q (show ¬ sc 8011 ≠ (-1) from by omega)) (fun _ => ?_)
      refine RQ.seg 2 (pc' := 107) (L' := [some (.ref 80), some (.int (iI c1)), some (.int (iI v)), some (.int (iI i))]) (st' := [.int (iI 4), .int (iI i)]) (g1 := (HW (usc sc 8010 p) ar 81 oc rl ou tl, q)) rfl ?_
      refine RQ.if2 (a := i) (b := 4) rfl rfl rfl rfl (by omega) (by omega) (fun (q : i ≠ 4) => absurd q (show ¬ i ≠ 4 from by omega)) (fun _ => ?_)
      refine RQ.seg 1 (pc' := 111) (L' := [some (.ref 80), some (.int (iI c1)), some (.int (iI v)), some (.int (iI i))]) (st' := [.ref 80]) (g1 := (HW (usc sc 8010 p) ar 81 oc rl ou tl, q)) rfl ?_
      have hcall := m_fails (K := K) (d := d) (tx := 81) (oc := oc) (rl := rl) (ou := ou) (tl := tl) (q := q) (sc := usc sc 8010 p) (ar := ar) (by show -1 ≤ sc 8011 ∧ sc 8011 ≤ 200; omega)
      rw [show (if (usc sc 8010 p) 8011 = -1 then (usc sc 8010 p) 8010 else (usc sc 8010 p) 8011) = p from if_pos h0] at hcall
      refine RQ.call rfl rfl hcall ?_
      refine RQ.seg 2 (pc' := 116) (L' := [some (.ref 80), some (.int (iI c1)), some (.int (iI v)), some (.int (iI i))]) (st' := [.int (iI 0)]) (g1 := (HW (usc (usc sc 8010 p) 8011 p) ar 81 oc rl ou tl, q)) rfl ?_
      refine RQ.ret rfl rfl ?_
      exact hk2 hdg
    · skip
      refine RQ.call rfl rfl (m_dig81f (d := d) (sc := usc sc 8010 p) (ar := ar) (a := p) ht hv rfl hp hdg) ?_
      refine RQ.seg 2 (pc' := 157) (L' := [some (.ref 80), some (.int (iI c1)), some (.int (iI v)), some (.int (iI i))]) (st' := [.int (iI v)]) (g1 := (HW (usc sc 8010 p) ar 81 oc rl ou tl, q)) rfl ?_
      refine RQ.ret rfl rfl ?_
      exact hk1 hdg
  | m + 1, i, p, v, hm, hi, hp, hv0, hk1, hk2 => by
    have ht1 := ht.1
    obtain ⟨hv1, hv2, hv3, hv4⟩ := id hv
    have hvv : 0 ≤ v ∧ v ≤ 9999 := by unfold v10 at hv0; omega
    refine RQ.seg 1 (pc' := 91) (L' := [some (.ref 80), some (.int (iI c1)), some (.int (iI v)), some (.int (iI i))]) (st' := [.ref 80]) (g1 := (HW (usc sc 8010 p) ar 81 oc rl ou tl, q)) rfl ?_
    rcases Decidable.em (dig (tch tp p)) with hdg | hdg
    · skip
      have htp := tch_pos (tp := tp) (p := p) (by omega)
      have hti := tch_in htp
      have hsg := sgb_r (ht.2 p htp.1 htp.2)
      have hsv : sgb (lat tp p) = tch tp p := by rw [hti]; unfold sgb; rw [if_pos (by omega)]
      refine RQ.call rfl rfl (m_dig81t (d := d) (sc := usc sc 8010 p) (ar := ar) (a := p) ht hv rfl hp hdg) ?_
      refine RQ.seg 4 (pc' := 102) (L' := [some (.ref 80), some (.int (iI c1)), some (.int (iI v)), some (.int (iI i))]) (st' := [.int (iI (-1)), .int (iI (sc 8011))]) (g1 := (HW (usc sc 8010 p) ar 81 oc rl ou tl, q)) rfl ?_
      refine RQ.if2 (a := (sc 8011)) (b := (-1)) rfl rfl rfl rfl (by omega) (by omega) (fun (q : sc 8011 ≠ (-1)) => absurd q (show ¬ sc 8011 ≠ (-1) from by omega)) (fun _ => ?_)
      refine RQ.seg 2 (pc' := 107) (L' := [some (.ref 80), some (.int (iI c1)), some (.int (iI v)), some (.int (iI i))]) (st' := [.int (iI 4), .int (iI i)]) (g1 := (HW (usc sc 8010 p) ar 81 oc rl ou tl, q)) rfl ?_
      refine RQ.if2 (a := i) (b := 4) rfl rfl rfl rfl (by omega) (by omega) (fun _ => ?_) (fun (q : ¬ i ≠ 4) => absurd (show i ≠ 4 from by omega) q)
      refine RQ.seg 7 (pc' := 129) (L' := [some (.ref 80), some (.int (iI c1)), some (.int (iI v)), some (.int (iI i))]) (st' := [.int (iI (sc 8008)), .ref 81, .int ((iI 10) * (iI v))]) (g1 := (HW (usc sc 8010 p) ar 81 oc rl ou tl, q)) rfl ?_
      refine RQ.to (L' := [some (.ref 80), some (.int (iI c1)), some (.int (iI v)), some (.int (iI i))]) (st' := [.int (iI bg), .ref 81, .int ((iI 10) * (iI v))]) rfl (by rw [show sc 8008 = bg from hv2]) ?_
      refine RQ.seg 3 (pc' := 134) (L' := [some (.ref 80), some (.int (iI c1)), some (.int (iI v)), some (.int (iI i))]) (st' := [.int ((iI bg) + (iI p)), .ref 81, .int ((iI 10) * (iI v))]) (g1 := (HW (usc sc 8010 p) ar 81 oc rl ou tl, q)) rfl ?_
      refine RQ.baldv (z := (bg + p)) (v := (sgb (lat tp p))) rfl (by simp only [iI_add, iI_sub, iI_mul, iI_neg]) rfl (by omega) (by decide) (hv4 p (by omega) (by omega)) ?_
      refine RQ.seg 9 (pc' := 147) (L' := [some (.ref 80), some (.int (iI c1)), some (.int ((((iI 10) * (iI v)) + (iI (sgb (lat tp p)))) - (iI 48))), some (.int (iI i))]) (st' := [.int ((iI p) + (iI 1)), .ref 80]) (g1 := (HW (usc sc 8010 p) ar 81 oc rl ou tl, q)) rfl ?_
      refine RQ.to (L' := [some (.ref 80), some (.int (iI c1)), some (.int (iI (10 * v + (sgb (lat tp p)) - 48))), some (.int (iI i))]) (st' := [.int (iI (p + 1)), .ref 80]) (by simp only [iI_add, iI_sub, iI_mul, iI_neg]) (by simp only [iI_add, iI_sub, iI_mul, iI_neg]) ?_
      refine RQ.seg 3 (pc' := 90) (L' := [some (.ref 80), some (.int (iI c1)), some (.int (iI (10 * v + (sgb (lat tp p)) - 48))), some (.int ((iI i) + (iI 1)))]) (st' := []) (g1 := (HW (usc sc 8010 (p + 1)) ar 81 oc rl ou tl, q)) rfl ?_
      refine RQ.to (L' := [some (.ref 80), some (.int (iI c1)), some (.int (iI (10 * v + (sgb (lat tp p)) - 48))), some (.int (iI (i + 1)))]) (st' := []) (by simp only [iI_add, iI_sub, iI_mul, iI_neg]) rfl ?_
      rw [show 10 * v + (sgb (lat tp p)) - 48 = v * 10 + (tch tp p - 48) by rw [hsv]; omega]
      rw [nmn, if_pos hdg] at hk1 hk2
      exact m_dg81_l ht hv h0 m (i + 1) (p + 1) (v * 10 + (tch tp p - 48)) (by omega) (by omega) (by omega) (v10_s (by omega) hv0 (by omega)) hk1 hk2
    · skip
      refine RQ.call rfl rfl (m_dig81f (d := d) (sc := usc sc 8010 p) (ar := ar) (a := p) ht hv rfl hp hdg) ?_
      refine RQ.seg 2 (pc' := 157) (L' := [some (.ref 80), some (.int (iI c1)), some (.int (iI v)), some (.int (iI i))]) (st' := [.int (iI v)]) (g1 := (HW (usc sc 8010 p) ar 81 oc rl ou tl, q)) rfl ?_
      refine RQ.ret rfl rfl ?_
      rw [nmn, if_neg hdg] at hk1
      exact hk1 hdg
theorem m_goes82t {K : PK} {d : Nat} {sc : Nat → Int} {ar : Nat → Int → Int} {oc : Nat} {rl : Nat → Option Nat} {ou : Nat → Int64} {tl : List PO} {q : Nat × Nat} {dp : Int} (hdp : sc 8012 = dp) (rdp : 0 ≤ dp ∧ dp ≤ 6) (ra : 0 ≤ sc 8010 ∧ sc 8010 ≤ 160) (hw : sc 8011 = -1) (hd : dp < 6) : CallR K (d + 2) 159 [.ref 80] (HW sc ar 82 oc rl ou tl, q) (some (.int (iI 1))) (HW (usc (usc sc 8010 (sc 8010 + 1)) 8012 (dp + 1)) ar 82 oc rl ou tl, q) := by
  apply CQ.x
  refine CQ.of (own := 11) (n := 1) (ini := false) (rt := (some .boolean)) (cd := cd159) (by decide +kernel) rfl (by decide +kernel) rfl (Nat.le_of_ble_eq_true rfl) ?_
  refine RQ.seg 2 (pc' := 4) (L' := [some (.ref 80)]) (st' := [.int (iI (sc 8012))]) (g1 := (HW sc ar 82 oc rl ou tl, q)) rfl ?_
  refine RQ.to (L' := [some (.ref 80)]) (st' := [.int (iI dp)]) rfl (by rw [show sc 8012 = dp from hdp]) ?_
  refine RQ.seg 1 (pc' := 6) (L' := [some (.ref 80)]) (st' := [.int (iI 6), .int (iI dp)]) (g1 := (HW sc ar 82 oc rl ou tl, q)) rfl ?_
  refine RQ.if2 (a := dp) (b := 6) rfl rfl rfl rfl (by omega) (by omega) (fun _ => ?_) (fun (q : ¬ dp ≠ 6) => absurd (show dp ≠ 6 from by omega) q)
  refine RQ.seg 3 (pc' := 19) (L' := [some (.ref 80)]) (st' := [.int (iI (sc 8012)), .ref 80]) (g1 := (HW sc ar 82 oc rl ou tl, q)) rfl ?_
  refine RQ.to (L' := [some (.ref 80)]) (st' := [.int (iI dp), .ref 80]) rfl (by rw [show sc 8012 = dp from hdp]) ?_
  refine RQ.seg 2 (pc' := 21) (L' := [some (.ref 80)]) (st' := [.int ((iI dp) + (iI 1)), .ref 80]) (g1 := (HW sc ar 82 oc rl ou tl, q)) rfl ?_
  refine RQ.to (L' := [some (.ref 80)]) (st' := [.int (iI (dp + 1)), .ref 80]) rfl (by simp only [iI_add, iI_sub, iI_mul, iI_neg]) ?_
  refine RQ.seg 6 (pc' := 31) (L' := [some (.ref 80)]) (st' := [.int ((iI (sc 8010)) + (iI 1)), .ref 80]) (g1 := (HW (usc sc 8012 (dp + 1)) ar 82 oc rl ou tl, q)) rfl ?_
  refine RQ.to (L' := [some (.ref 80)]) (st' := [.int (iI (sc 8010 + 1)), .ref 80]) rfl (by simp only [iI_add, iI_sub, iI_mul, iI_neg]) ?_
  refine RQ.seg 2 (pc' := 35) (L' := [some (.ref 80)]) (st' := [.int (iI 1)]) (g1 := (HW (usc (usc sc 8010 (sc 8010 + 1)) 8012 (dp + 1)) ar 82 oc rl ou tl, q)) rfl ?_
  refine RQ.ret rfl rfl ?_
  exact ⟨rfl, rfl⟩
theorem m_goes82f {K : PK} {d : Nat} {sc : Nat → Int} {ar : Nat → Int → Int} {oc : Nat} {rl : Nat → Option Nat} {ou : Nat → Int64} {tl : List PO} {q : Nat × Nat} {dp : Int} (hdp : sc 8012 = dp) (rdp : 0 ≤ dp ∧ dp ≤ 6) (ra : 0 ≤ sc 8010 ∧ sc 8010 ≤ 160) (hw : sc 8011 = -1) (hd : ¬ dp < 6) : CallR K (d + 2) 159 [.ref 80] (HW sc ar 82 oc rl ou tl, q) (some (.int (iI 0))) (HW (usc sc 8011 (sc 8010)) ar 82 oc rl ou tl, q) := by
  apply CQ.x
  refine CQ.of (own := 11) (n := 1) (ini := false) (rt := (some .boolean)) (cd := cd159) (by decide +kernel) rfl (by decide +kernel) rfl (Nat.le_of_ble_eq_true rfl) ?_
  refine RQ.seg 2 (pc' := 4) (L' := [some (.ref 80)]) (st' := [.int (iI (sc 8012))]) (g1 := (HW sc ar 82 oc rl ou tl, q)) rfl ?_
  refine RQ.to (L' := [some (.ref 80)]) (st' := [.int (iI dp)]) rfl (by rw [show sc 8012 = dp from hdp]) ?_
  refine RQ.seg 1 (pc' := 6) (L' := [some (.ref 80)]) (st' := [.int (iI 6), .int (iI dp)]) (g1 := (HW sc ar 82 oc rl ou tl, q)) rfl ?_
  refine RQ.if2 (a := dp) (b := 6) rfl rfl rfl rfl (by omega) (by omega) (fun (q : dp ≠ 6) => absurd q (show ¬ dp ≠ 6 from by omega)) (fun _ => ?_)
  refine RQ.seg 1 (pc' := 10) (L' := [some (.ref 80)]) (st' := [.ref 80]) (g1 := (HW sc ar 82 oc rl ou tl, q)) rfl ?_
  have hcall := m_fails (K := K) (d := d) (tx := 82) (oc := oc) (rl := rl) (ou := ou) (tl := tl) (q := q) (sc := sc) (ar := ar) (by omega)
  rw [if_pos hw] at hcall
  refine RQ.call rfl rfl hcall ?_
  refine RQ.ret rfl rfl ?_
  exact ⟨rfl, rfl⟩
theorem m_takes82 {K : PK} {d : Nat} {sc : Nat → Int} {ar : Nat → Int → Int} {oc : Nat} {rl : Nat → Option Nat} {ou : Nat → Int64} {tl : List PO} {q : Nat × Nat} {tp : List Int} {bg : Int} (ht : TpOK tp) {r : RS} {dp c : Int} (hM : MX tp bg 640 r dp sc (ar 82)) (rc : 1 ≤ c ∧ c ≤ 255) : CQ K (d + 2) 160 [.ref 80, .int (iI c)] (HW sc ar 82 oc rl ou tl, q) (fun v g' => v = some (.int (iI (if (rsq r (rex tp c)).1 = -1 then 1 else 0))) ∧ ∃ sc', g' = (HW sc' ar 82 oc rl ou tl, q) ∧ Same muF sc sc' ∧ MX tp bg 640 (rsq r (rex tp c)) dp sc' (ar 82)) := by
  have ht1 := ht.1
  obtain ⟨hv, hA, hW, hWr, hD, hG⟩ := id hM
  refine CQ.of (own := 11) (n := 2) (ini := false) (rt := (some .boolean)) (cd := cd160) (by decide +kernel) rfl (by decide +kernel) rfl (Nat.le_of_ble_eq_true rfl) ?_
  rcases Decidable.em (r.1 = -1) with he | hE
  · skip
    obtain ⟨g1, g2⟩ := hG he
    have hw1 : sc 8011 = -1 := hW.trans he
    have hsk := sk_r (tp := tp) (p := r.2.1) (by omega)
    have hlk : 0 ≤ lk tp r.2.1 ∧ lk tp r.2.1 ≤ 255 := tch_r ht (sk tp r.2.1)
    have hlm := lkm_r hlk
    refine RQ.seg 3 (pc' := 5) (L' := [some (.ref 80), some (.int (iI c))]) (st' := [.int (iI (-1)), .int (iI (sc 8011))]) (g1 := (HW sc ar 82 oc rl ou tl, q)) rfl ?_
    refine RQ.if2 (a := (sc 8011)) (b := (-1)) rfl rfl rfl rfl (by omega) (by omega) (fun (q : sc 8011 ≠ (-1)) => absurd q (show ¬ sc 8011 ≠ (-1) from by omega)) (fun _ => ?_)
    refine RQ.seg 1 (pc' := 9) (L' := [some (.ref 80), some (.int (iI c))]) (st' := [.ref 80]) (g1 := (HW sc ar 82 oc rl ou tl, q)) rfl ?_
    refine RQ.call rfl rfl (m_look82 (d := d) (sc := sc) (ar := ar) (a := r.2.1) ht hv g1 (by omega)) ?_
    refine RQ.seg 1 (pc' := 13) (L' := [some (.ref 80), some (.int (iI c))]) (st' := [.int (iI c), .int (iI (lkm (lk tp r.2.1)))]) (g1 := (HW (usc sc 8010 (sk tp r.2.1)) ar 82 oc rl ou tl, q)) rfl ?_
    refine RQ.if2 (a := (lkm (lk tp r.2.1))) (b := c) rfl rfl rfl rfl (by omega) (by omega) (fun (h2 : lkm (lk tp r.2.1) = c) => ?_) (fun (h2 : ¬ lkm (lk tp r.2.1) = c) => ?_)
    · skip
      refine RQ.seg 5 (pc' := 28) (L' := [some (.ref 80), some (.int (iI c))]) (st' := [.int ((iI (sk tp r.2.1)) + (iI 1)), .ref 80]) (g1 := (HW (usc sc 8010 (sk tp r.2.1)) ar 82 oc rl ou tl, q)) rfl ?_
      refine RQ.to (L' := [some (.ref 80), some (.int (iI c))]) (st' := [.int (iI (sk tp r.2.1 + 1)), .ref 80]) rfl (by simp only [iI_add, iI_sub, iI_mul, iI_neg]) ?_
      refine RQ.seg 2 (pc' := 32) (L' := [some (.ref 80), some (.int (iI c))]) (st' := [.int (iI 1)]) (g1 := (HW (usc sc 8010 (sk tp r.2.1 + 1)) ar 82 oc rl ou tl, q)) rfl ?_
      refine RQ.ret rfl rfl ?_
      have hps := lk_in (tp := tp) (a := r.2.1) (by omega) (by omega)
      have eT : rsq r (rex tp c) = pre r.2.2 (-1, sk tp r.2.1 + 1, []) := by rw [rsq_p he]; unfold rex; rw [if_pos (by omega)]
      rw [eT]
      exact ⟨by rw [if_pos (show (pre r.2.2 (-1, sk tp r.2.1 + 1, [])).1 = -1 from rfl)], _, rfl, (by repeat (first | exact Same.rf | refine Same.us rfl ?_)), hv, by show 0 ≤ sk tp r.2.1 + 1 ∧ sk tp r.2.1 + 1 ≤ _; omega, hw1, by show (-1 : Int) ≤ -1 ∧ (-1 : Int) ≤ 160; omega, hD, fun _ => ⟨rfl, g2⟩⟩
    · skip
      refine RQ.seg 1 (pc' := 17) (L' := [some (.ref 80), some (.int (iI c))]) (st' := [.ref 80]) (g1 := (HW (usc sc 8010 (sk tp r.2.1)) ar 82 oc rl ou tl, q)) rfl ?_
      have hcall := m_fails (K := K) (d := d) (tx := 82) (oc := oc) (rl := rl) (ou := ou) (tl := tl) (q := q) (sc := usc sc 8010 (sk tp r.2.1)) (ar := ar) (by show -1 ≤ sc 8011 ∧ sc 8011 ≤ 200; omega)
      rw [show (if (usc sc 8010 (sk tp r.2.1)) 8011 = -1 then (usc sc 8010 (sk tp r.2.1)) 8010 else (usc sc 8010 (sk tp r.2.1)) 8011) = sk tp r.2.1 from if_pos (show sc 8011 = -1 by omega)] at hcall
      refine RQ.call rfl rfl hcall ?_
      refine RQ.ret rfl rfl ?_
      have eT : rsq r (rex tp c) = pre r.2.2 (rno tp r.2.1) := by rw [rsq_p he]; unfold rex; rw [if_neg (by omega)]
      rw [eT, if_neg (by show ¬ sk tp r.2.1 = -1; omega)]
      exact ⟨rfl, _, rfl, (by repeat (first | exact Same.rf | refine Same.us rfl ?_)), hv, by show 0 ≤ sk tp r.2.1 ∧ sk tp r.2.1 ≤ _; omega, rfl, by show -1 ≤ sk tp r.2.1 ∧ sk tp r.2.1 ≤ 160; omega, hD, fun z => absurd (show sk tp r.2.1 = -1 from z) (by omega)⟩
  · have hw1 : ¬ sc 8011 = -1 := by omega
    refine RQ.seg 3 (pc' := 5) (L' := [some (.ref 80), some (.int (iI c))]) (st' := [.int (iI (-1)), .int (iI (sc 8011))]) (g1 := (HW sc ar 82 oc rl ou tl, q)) rfl ?_
    refine RQ.if2 (a := (sc 8011)) (b := (-1)) rfl rfl rfl rfl (by omega) (by omega) (fun _ => ?_) (fun (q : ¬ sc 8011 ≠ (-1)) => absurd (show sc 8011 ≠ (-1) from by omega) q)
    refine RQ.seg 1 (pc' := 17) (L' := [some (.ref 80), some (.int (iI c))]) (st' := [.ref 80]) (g1 := (HW sc ar 82 oc rl ou tl, q)) rfl ?_
    have hcall := m_fails (K := K) (d := d) (tx := 82) (oc := oc) (rl := rl) (ou := ou) (tl := tl) (q := q) (sc := sc) (ar := ar) (by show -1 ≤ sc 8011 ∧ sc 8011 ≤ 200; omega)
    rw [show (if (sc) 8011 = -1 then (sc) 8010 else (sc) 8011) = sc 8011 from if_neg (show ¬ sc 8011 = -1 by omega)] at hcall
    refine RQ.call rfl rfl hcall ?_
    refine RQ.ret rfl rfl ?_
    rw [rsq_b hE, if_neg hE]
    exact ⟨rfl, _, rfl, (by repeat (first | exact Same.rf | refine Same.us rfl ?_)), hv, hA, hW, hWr, hD, fun z => absurd z hE⟩
theorem m_dg82_l {K : PK} {d : Nat} {sc : Nat → Int} {ar : Nat → Int → Int} {oc : Nat} {rl : Nat → Option Nat} {ou : Nat → Int64} {tl : List PO} {q : Nat × Nat} {Q : Option Value → PG → Prop} {tp : List Int} {bg : Int} (ht : TpOK tp) (hv : TvM tp bg 640 (sc 8008) (sc 8009) (ar 82)) {c1 : Int} (h0 : sc 8011 = -1) : ∀ (m : Nat) (i p v : Int) (hm : i + m = 4) (hi : 0 ≤ i) (hp : 0 ≤ p ∧ p ≤ (tp.length : Int)) (hv0 : v10 i v) (hk1 : ¬ dig (tch tp (nmn tp m p v).2) → Q (some (.int (iI (nmn tp m p v).1))) (HW (usc sc 8010 ((nmn tp m p v).2)) ar 82 oc rl ou tl, q)) (hk2 : dig (tch tp (nmn tp m p v).2) → Q (some (.int (iI 0))) (HW (usc (usc sc 8010 ((nmn tp m p v).2)) 8011 ((nmn tp m p v).2)) ar 82 oc rl ou tl, q)), RQ K (d + 1) 11 false (some .int) cd163 90 [some (.ref 80), some (.int (iI c1)), some (.int (iI v)), some (.int (iI i))] [] (HW (usc sc 8010 p) ar 82 oc rl ou tl, q) Q
  | 0, i, p, v, hm, hi, hp, hv0, hk1, hk2 => by
    have ht1 := ht.1
    obtain ⟨hv1, hv2, hv3, hv4⟩ := id hv
    have hvv : 0 ≤ v ∧ v ≤ 9999 := by unfold v10 at hv0; omega
    refine RQ.seg 1 (pc' := 91) (L' := [some (.ref 80), some (.int (iI c1)), some (.int (iI v)), some (.int (iI i))]) (st' := [.ref 80]) (g1 := (HW (usc sc 8010 p) ar 82 oc rl ou tl, q)) rfl ?_
    rcases Decidable.em (dig (tch tp p)) with hdg | hdg
    · skip
      have htp := tch_pos (tp := tp) (p := p) (by omega)
      have hti := tch_in htp
      have hsg := sgb_r (ht.2 p htp.1 htp.2)
      have hsv : sgb (lat tp p) = tch tp p := by rw [hti]; unfold sgb; rw [if_pos (by omega)]
      refine RQ.call rfl rfl (m_dig82t (d := d) (sc := usc sc 8010 p) (ar := ar) (a := p) ht hv rfl hp hdg) ?_
      refine RQ.seg 4 (pc' := 102) (L' := [some (.ref 80), some (.int (iI c1)), some (.int (iI v)), some (.int (iI i))]) (st' := [.int (iI (-1)), .int (iI (sc 8011))]) (g1 := (HW (usc sc 8010 p) ar 82 oc rl ou tl, q)) rfl ?_
      refine RQ.if2 (a := (sc 8011)) (b := (-1)) rfl rfl rfl rfl (by omega) (by omega) (fun (q : sc 8011 ≠ (-1)) => absurd q (show ¬ sc 8011 ≠ (-1) from by omega)) (fun _ => ?_)
      refine RQ.seg 2 (pc' := 107) (L' := [some (.ref 80), some (.int (iI c1)), some (.int (iI v)), some (.int (iI i))]) (st' := [.int (iI 4), .int (iI i)]) (g1 := (HW (usc sc 8010 p) ar 82 oc rl ou tl, q)) rfl ?_
      refine RQ.if2 (a := i) (b := 4) rfl rfl rfl rfl (by omega) (by omega) (fun (q : i ≠ 4) => absurd q (show ¬ i ≠ 4 from by omega)) (fun _ => ?_)
      refine RQ.seg 1 (pc' := 111) (L' := [some (.ref 80), some (.int (iI c1)), some (.int (iI v)), some (.int (iI i))]) (st' := [.ref 80]) (g1 := (HW (usc sc 8010 p) ar 82 oc rl ou tl, q)) rfl ?_
      have hcall := m_fails (K := K) (d := d) (tx := 82) (oc := oc) (rl := rl) (ou := ou) (tl := tl) (q := q) (sc := usc sc 8010 p) (ar := ar) (by show -1 ≤ sc 8011 ∧ sc 8011 ≤ 200; omega)
      rw [show (if (usc sc 8010 p) 8011 = -1 then (usc sc 8010 p) 8010 else (usc sc 8010 p) 8011) = p from if_pos h0] at hcall
      refine RQ.call rfl rfl hcall ?_
      refine RQ.seg 2 (pc' := 116) (L' := [some (.ref 80), some (.int (iI c1)), some (.int (iI v)), some (.int (iI i))]) (st' := [.int (iI 0)]) (g1 := (HW (usc (usc sc 8010 p) 8011 p) ar 82 oc rl ou tl, q)) rfl ?_
      refine RQ.ret rfl rfl ?_
      exact hk2 hdg
    · skip
      refine RQ.call rfl rfl (m_dig82f (d := d) (sc := usc sc 8010 p) (ar := ar) (a := p) ht hv rfl hp hdg) ?_
      refine RQ.seg 2 (pc' := 157) (L' := [some (.ref 80), some (.int (iI c1)), some (.int (iI v)), some (.int (iI i))]) (st' := [.int (iI v)]) (g1 := (HW (usc sc 8010 p) ar 82 oc rl ou tl, q)) rfl ?_
      refine RQ.ret rfl rfl ?_
      exact hk1 hdg
  | m + 1, i, p, v, hm, hi, hp, hv0, hk1, hk2 => by
    have ht1 := ht.1
    obtain ⟨hv1, hv2, hv3, hv4⟩ := id hv
    have hvv : 0 ≤ v ∧ v ≤ 9999 := by unfold v10 at hv0; omega
    refine RQ.seg 1 (pc' := 91) (L' := [some (.ref 80), some (.int (iI c1)), some (.int (iI v)), some (.int (iI i))]) (st' := [.ref 80]) (g1 := (HW (usc sc 8010 p) ar 82 oc rl ou tl, q)) rfl ?_
    rcases Decidable.em (dig (tch tp p)) with hdg | hdg
    · skip
      have htp := tch_pos (tp := tp) (p := p) (by omega)
      have hti := tch_in htp
      have hsg := sgb_r (ht.2 p htp.1 htp.2)
      have hsv : sgb (lat tp p) = tch tp p := by rw [hti]; unfold sgb; rw [if_pos (by omega)]
      refine RQ.call rfl rfl (m_dig82t (d := d) (sc := usc sc 8010 p) (ar := ar) (a := p) ht hv rfl hp hdg) ?_
      refine RQ.seg 4 (pc' := 102) (L' := [some (.ref 80), some (.int (iI c1)), some (.int (iI v)), some (.int (iI i))]) (st' := [.int (iI (-1)), .int (iI (sc 8011))]) (g1 := (HW (usc sc 8010 p) ar 82 oc rl ou tl, q)) rfl ?_
      refine RQ.if2 (a := (sc 8011)) (b := (-1)) rfl rfl rfl rfl (by omega) (by omega) (fun (q : sc 8011 ≠ (-1)) => absurd q (show ¬ sc 8011 ≠ (-1) from by omega)) (fun _ => ?_)
      refine RQ.seg 2 (pc' := 107) (L' := [some (.ref 80), some (.int (iI c1)), some (.int (iI v)), some (.int (iI i))]) (st' := [.int (iI 4), .int (iI i)]) (g1 := (HW (usc sc 8010 p) ar 82 oc rl ou tl, q)) rfl ?_
      refine RQ.if2 (a := i) (b := 4) rfl rfl rfl rfl (by omega) (by omega) (fun _ => ?_) (fun (q : ¬ i ≠ 4) => absurd (show i ≠ 4 from by omega) q)
      refine RQ.seg 7 (pc' := 129) (L' := [some (.ref 80), some (.int (iI c1)), some (.int (iI v)), some (.int (iI i))]) (st' := [.int (iI (sc 8008)), .ref 82, .int ((iI 10) * (iI v))]) (g1 := (HW (usc sc 8010 p) ar 82 oc rl ou tl, q)) rfl ?_
      refine RQ.to (L' := [some (.ref 80), some (.int (iI c1)), some (.int (iI v)), some (.int (iI i))]) (st' := [.int (iI bg), .ref 82, .int ((iI 10) * (iI v))]) rfl (by rw [show sc 8008 = bg from hv2]) ?_
      refine RQ.seg 3 (pc' := 134) (L' := [some (.ref 80), some (.int (iI c1)), some (.int (iI v)), some (.int (iI i))]) (st' := [.int ((iI bg) + (iI p)), .ref 82, .int ((iI 10) * (iI v))]) (g1 := (HW (usc sc 8010 p) ar 82 oc rl ou tl, q)) rfl ?_
      refine RQ.baldv (z := (bg + p)) (v := (sgb (lat tp p))) rfl (by simp only [iI_add, iI_sub, iI_mul, iI_neg]) rfl (by omega) (by decide) (hv4 p (by omega) (by omega)) ?_
      refine RQ.seg 9 (pc' := 147) (L' := [some (.ref 80), some (.int (iI c1)), some (.int ((((iI 10) * (iI v)) + (iI (sgb (lat tp p)))) - (iI 48))), some (.int (iI i))]) (st' := [.int ((iI p) + (iI 1)), .ref 80]) (g1 := (HW (usc sc 8010 p) ar 82 oc rl ou tl, q)) rfl ?_
      refine RQ.to (L' := [some (.ref 80), some (.int (iI c1)), some (.int (iI (10 * v + (sgb (lat tp p)) - 48))), some (.int (iI i))]) (st' := [.int (iI (p + 1)), .ref 80]) (by simp only [iI_add, iI_sub, iI_mul, iI_neg]) (by simp only [iI_add, iI_sub, iI_mul, iI_neg]) ?_
      refine RQ.seg 3 (pc' := 90) (L' := [some (.ref 80), some (.int (iI c1)), some (.int (iI (10 * v + (sgb (lat tp p)) - 48))), some (.int ((iI i) + (iI 1)))]) (st' := []) (g1 := (HW (usc sc 8010 (p + 1)) ar 82 oc rl ou tl, q)) rfl ?_
      refine RQ.to (L' := [some (.ref 80), some (.int (iI c1)), some (.int (iI (10 * v + (sgb (lat tp p)) - 48))), some (.int (iI (i + 1)))]) (st' := []) (by simp only [iI_add, iI_sub, iI_mul, iI_neg]) rfl ?_
      rw [show 10 * v + (sgb (lat tp p)) - 48 = v * 10 + (tch tp p - 48) by rw [hsv]; omega]
      rw [nmn, if_pos hdg] at hk1 hk2
      exact m_dg82_l ht hv h0 m (i + 1) (p + 1) (v * 10 + (tch tp p - 48)) (by omega) (by omega) (by omega) (v10_s (by omega) hv0 (by omega)) hk1 hk2
    · skip
      refine RQ.call rfl rfl (m_dig82f (d := d) (sc := usc sc 8010 p) (ar := ar) (a := p) ht hv rfl hp hdg) ?_
      refine RQ.seg 2 (pc' := 157) (L' := [some (.ref 80), some (.int (iI c1)), some (.int (iI v)), some (.int (iI i))]) (st' := [.int (iI v)]) (g1 := (HW (usc sc 8010 p) ar 82 oc rl ou tl, q)) rfl ?_
      refine RQ.ret rfl rfl ?_
      rw [nmn, if_neg hdg] at hk1
      exact hk1 hdg
