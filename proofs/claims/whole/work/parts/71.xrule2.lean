/-! the class reads a rule, by wip/tools -/
/-! the class reads a rule -/
def XC (K : PK) (tp : List Int) (m nt k D0 : Nat) (xs : List Value) : Prop := ∀ (D u : Nat) (dp : Int) (r0 : RS) (sc : Nat → Int) (ar : Nat → Int → Int) (tx oc : Nat) (rl : Nat → Option Nat) (ou : Nat → Int64) (tl : List PO) (q : Nat × Nat), dp + u = 6 → 0 ≤ dp → 6 * u + D0 ≤ D → RX tp r0 sc ar → (r0.1 = -1 → Fu tp m nt r0.2.1) → CQ K (D + 1) k (.ref 26 :: .int (iI dp) :: xs) (HW sc ar tx oc rl ou tl, q) (QX tp (rsq r0 (rd tp m nt dp)) sc ar tx oc rl ou tl q)
theorem XC.zero {K : PK} {tp : List Int} {nt k D0 : Nat} {xs : List Value} (hb : ∀ (D u : Nat) (dp : Int) (r0 : RS) (sc : Nat → Int) (ar : Nat → Int → Int) (tx oc : Nat) (rl : Nat → Option Nat) (ou : Nat → Int64) (tl : List PO) (q : Nat × Nat), dp + u = 6 → 0 ≤ dp → 6 * u + D0 ≤ D → RX tp r0 sc ar → ¬ r0.1 = -1 → CQ K (D + 1) k (.ref 26 :: .int (iI dp) :: xs) (HW sc ar tx oc rl ou tl, q) (QX tp r0 sc ar tx oc rl ou tl q)) : XC K tp 0 nt k D0 xs := by
  intro D u dp r0 sc ar tx oc rl ou tl q hdu hdp hD hR hF
  rcases Decidable.em (r0.1 = -1) with he | hE
  · exfalso
    have z1 : 16 * ((tp.length : Int) - r0.2.1) + nrk nt ≤ ((0 : Nat) : Int) := hF he
    have z2 := hR.2.1
    have z3 := (hR.2.2.2.2.2 he).1
    have z4 : 1 ≤ nrk nt := by unfold nrk; split <;> omega
    omega
  · rw [rsq_b hE]
    exact hb D u dp r0 sc ar tx oc rl ou tl q hdu hdp hD hR hE
theorem QX.tr {tp : List Int} {r : RS} {sc sc1 : Nat → Int} {ar ar1 : Nat → Int → Int} {tx oc : Nat} {rl : Nat → Option Nat} {ou : Nat → Int64} {tl : List PO} {q : Nat × Nat} (h1 : Same ruF sc sc1) (h2 : Same ruA ar ar1) {v : Option Value} {g : PG} (h : QX tp r sc1 ar1 tx oc rl ou tl q v g) : QX tp r sc ar tx oc rl ou tl q v g := by
  obtain ⟨e, sc', ar', e2, s1, s2, hR⟩ := h
  exact ⟨e, sc', ar', e2, h1.tr s1, h2.tr s2, hR⟩
theorem RQ.im {K : PK} {d own : Nat} {ini : Bool} {rt : Option FieldType} {cd : PC} {pc : Nat} {L : PL} {st : List Value} {g : PG} {Q Q' : Option Value → PG → Prop} (h : RQ K d own ini rt cd pc L st g Q) (hi : ∀ v g', Q v g' → Q' v g') : RQ K d own ini rt cd pc L st g Q' := by
  obtain ⟨r, g', h1, h2⟩ := h
  exact ⟨r, g', h1, hi _ _ h2⟩
theorem RX.mv {tp : List Int} {r0 : RS} {sc : Nat → Int} {ar : Nat → Int → Int} {b : Int} (h : RX tp r0 sc ar) (he : r0.1 = -1) (hb : r0.2.1 ≤ b ∧ b ≤ (tp.length : Int)) : RX tp (-1, b, r0.2.2) (usc sc 2601 b) ar := by
  obtain ⟨h1, h2, h3, h4, h5, h6⟩ := h
  obtain ⟨g1, g2, g3, g4⟩ := h6 he
  exact ⟨h1, by show 0 ≤ b ∧ b ≤ _; omega, h3, h4.trans he, by show (-1 : Int) ≤ -1 ∧ (-1 : Int) ≤ 160; omega, fun _ => ⟨rfl, g2, g3, by show (r0.2.2.length : Int) ≤ b; omega⟩⟩
theorem RX.no {tp : List Int} {r0 : RS} {sc : Nat → Int} {ar : Nat → Int → Int} (ht : TpOK tp) (h : RX tp r0 sc ar) (he : r0.1 = -1) : RX tp (pre r0.2.2 (rno tp r0.2.1)) (usc (usc sc 2601 (sk tp r0.2.1)) 2602 (sk tp r0.2.1)) ar := by
  obtain ⟨h1, h2, h3, h4, h5, h6⟩ := h
  obtain ⟨g1, g2, g3, g4⟩ := h6 he
  have ht1 := ht.1
  have hs := sk_r (tp := tp) (p := r0.2.1) (by omega)
  exact ⟨h1, by show 0 ≤ sk tp r0.2.1 ∧ sk tp r0.2.1 ≤ _; omega, h3, rfl, by show -1 ≤ sk tp r0.2.1 ∧ sk tp r0.2.1 ≤ 160; omega, fun z => absurd (show sk tp r0.2.1 = -1 from z) (by omega)⟩
def XL6 (K : PK) (tp : List Int) (m : Nat) : Prop := ∀ (D u : Nat) (dp : Int) (n : Int) (e3 : Option Value) (r0 : RS) (sc : Nat → Int) (ar : Nat → Int → Int) (tx oc : Nat) (rl : Nat → Option Nat) (ou : Nat → Int64) (tl : List PO) (q : Nat × Nat), dp + u = 6 → 0 ≤ dp → 6 * u + 4 ≤ D → (0 ≤ n ∧ n ≤ 160) → RX tp r0 sc ar → (r0.1 = -1 → Fu tp m 6 r0.2.1 ∧ n + 1 ≤ r0.2.1) → RQ K D 7 false none cd89 7 [some (.ref 26), some (.int (iI dp)), some (.int (iI n)), e3] [] (HW sc ar tx oc rl ou tl, q) (QX tp (rsq r0 (rd tp m 6 dp)) sc ar tx oc rl ou tl q)
def XL7 (K : PK) (tp : List Int) (m : Nat) : Prop := ∀ (D u : Nat) (dp : Int) (n : Int) (e3 : Option Value) (r0 : RS) (sc : Nat → Int) (ar : Nat → Int → Int) (tx oc : Nat) (rl : Nat → Option Nat) (ou : Nat → Int64) (tl : List PO) (q : Nat × Nat), dp + u = 6 → 0 ≤ dp → 6 * u + 5 ≤ D → (0 ≤ n ∧ n ≤ 160) → RX tp r0 sc ar → (r0.1 = -1 → Fu tp m 7 r0.2.1 ∧ n + 1 ≤ r0.2.1) → RQ K D 7 false none cd88 7 [some (.ref 26), some (.int (iI dp)), some (.int (iI n)), e3] [] (HW sc ar tx oc rl ou tl, q) (QX tp (rsq r0 (rd tp m 7 dp)) sc ar tx oc rl ou tl q)
def XL8 (K : PK) (tp : List Int) (m : Nat) : Prop := ∀ (D u : Nat) (dp : Int) (s2 s3 : Int) (e4 : Option Value) (r0 : RS) (sc : Nat → Int) (ar : Nat → Int → Int) (tx oc : Nat) (rl : Nat → Option Nat) (ou : Nat → Int64) (tl : List PO) (q : Nat × Nat), dp + u = 6 → 0 ≤ dp → 6 * u + 6 ≤ D → RX tp r0 sc ar → (r0.1 = -1 → Fu tp m 8 r0.2.1) → RQ K D 7 false none cd87 87 [some (.ref 26), some (.int (iI dp)), some (.int (iI s2)), some (.int (iI s3)), e4] [] (HW sc ar tx oc rl ou tl, q) (QX tp (rsq r0 (rd tp m 8 dp)) sc ar tx oc rl ou tl q)
def XL9 (K : PK) (tp : List Int) (m : Nat) : Prop := ∀ (D u : Nat) (dp : Int) (n : Int) (s2 : Int) (r0 : RS) (sc : Nat → Int) (ar : Nat → Int → Int) (tx oc : Nat) (rl : Nat → Option Nat) (ou : Nat → Int64) (tl : List PO) (q : Nat × Nat), dp + u = 6 → 0 ≤ dp → 6 * u + 7 ≤ D → (0 ≤ n ∧ n ≤ 160) → RX tp r0 sc ar → (r0.1 = -1 → Fu tp m 9 r0.2.1 ∧ n + 1 ≤ r0.2.1) → RQ K D 7 false none cd86 8 [some (.ref 26), some (.int (iI dp)), some (.int (iI s2)), some (.int (iI n))] [] (HW sc ar tx oc rl ou tl, q) (QX tp (rsq r0 (rd tp m 9 dp)) sc ar tx oc rl ou tl q)
def XL11 (K : PK) (tp : List Int) (m : Nat) : Prop := ∀ (D u : Nat) (dp : Int) (n : Int) (s2 : Int) (r0 : RS) (sc : Nat → Int) (ar : Nat → Int → Int) (tx oc : Nat) (rl : Nat → Option Nat) (ou : Nat → Int64) (tl : List PO) (q : Nat × Nat), dp + u = 6 → 0 ≤ dp → 6 * u + 8 ≤ D → (0 ≤ n ∧ n ≤ 160) → RX tp r0 sc ar → (r0.1 = -1 → Fu tp m 11 r0.2.1 ∧ n + 1 ≤ r0.2.1) → RQ K D 7 false none cd85 8 [some (.ref 26), some (.int (iI dp)), some (.int (iI s2)), some (.int (iI n))] [] (HW sc ar tx oc rl ou tl, q) (QX tp (rsq r0 (rd tp m 11 dp)) sc ar tx oc rl ou tl q)
def XP (K : PK) (tp : List Int) (m : Nat) : Prop := XC K tp m 0 90 3 [] ∧ XC K tp m 1 89 4 [] ∧ XC K tp m 2 88 5 [] ∧ XC K tp m 3 87 6 [.int (iI 0)] ∧ XC K tp m 8 87 6 [.int (iI 1)] ∧ XC K tp m 4 86 7 [.int (iI 0)] ∧ XC K tp m 10 86 7 [.int (iI 1)] ∧ XC K tp m 5 85 8 [.int (iI 0)] ∧ XC K tp m 12 85 8 [.int (iI 1)] ∧ XL6 K tp m ∧ XL7 K tp m ∧ XL8 K tp m ∧ XL9 K tp m ∧ XL11 K tp m
theorem x_exp {K : PK} {d : Nat} {sc : Nat → Int} {ar : Nat → Int → Int} {tx oc : Nat} {rl : Nat → Option Nat} {ou : Nat → Int64} {tl : List PO} {q : Nat × Nat} {tp : List Int} {r0 : RS} (ht : TpOK tp) (hR : RX tp r0 sc ar) {c : Int} (rc : 1 ≤ c ∧ c ≤ 255) : CQ K (d + 2) 55 [.ref 26, .int (iI c)] (HW sc ar tx oc rl ou tl, q) (QX tp (rsq r0 (rex tp c)) sc ar tx oc rl ou tl q) := by
  have ht1 := ht.1
  obtain ⟨⟨hs, hl⟩, hA, hZ, hW, hWr, hG⟩ := id hR
  have hsk := sk_r (tp := tp) (p := sc 2601) (by omega)
  refine ⟨_, _, x_expect26 ht hs hl rfl hA rfl (by omega) rc, rfl, _, _, rfl, (by repeat (first | exact Same.rf | refine Same.us rfl ?_)), Same.rf, ?_⟩
  rcases Decidable.em (r0.1 = -1) with he | hE
  · obtain ⟨g1, g2, g3, g4⟩ := hG he
    rw [rsq_p he]
    rw [g1] at hsk ⊢
    unfold rex
    rcases Decidable.em (lk tp r0.2.1 = c) with hc | hc
    · have hp := tch_pos (tp := tp) (p := sk tp r0.2.1) (by show lk tp r0.2.1 ≠ 0; omega)
      rw [if_pos hc, if_pos hc, if_pos hc]
      refine ⟨⟨hs, hl⟩, by show 0 ≤ sk tp r0.2.1 + 1 ∧ sk tp r0.2.1 + 1 ≤ _; omega, hZ, by show sc 2602 = -1; omega, by show (-1 : Int) ≤ -1 ∧ (-1 : Int) ≤ 160; omega, fun _ => ⟨rfl, ?_, ?_, ?_⟩⟩
      · show sc 2701 = ((r0.2.2 ++ []).length : Int); rw [List.append_nil]; exact g2
      · show LAt _ (ar 29) (r0.2.2 ++ []); rw [List.append_nil]; exact g3
      · show ((r0.2.2 ++ []).length : Int) ≤ sk tp r0.2.1 + 1; rw [List.append_nil]; omega
    · rw [if_neg hc, if_neg hc, if_neg hc, if_pos (hW.trans he)]
      exact ⟨⟨hs, hl⟩, by show 0 ≤ sk tp r0.2.1 ∧ sk tp r0.2.1 ≤ _; omega, hZ, rfl, by show -1 ≤ sk tp r0.2.1 ∧ sk tp r0.2.1 ≤ 160; omega, fun z => absurd (show sk tp r0.2.1 = -1 from z) (by omega)⟩
  · rw [rsq_b hE]
    have e9 : (if lk tp (sc 2601) = c then sc 2602 else if sc 2602 = -1 then sk tp (sc 2601) else sc 2602) = sc 2602 := by
      rw [if_neg (show ¬ sc 2602 = -1 by omega)]; exact ite_self _
    rw [e9]
    refine RX.bad hR hE rfl rfl ?_ hZ rfl
    show 0 ≤ (if lk tp (sc 2601) = c then sk tp (sc 2601) + 1 else sk tp (sc 2601)) ∧ (if lk tp (sc 2601) = c then sk tp (sc 2601) + 1 else sk tp (sc 2601)) ≤ _
    split
    · rename_i hc
      have hp := tch_pos (tp := tp) (p := sk tp (sc 2601)) (by show lk tp (sc 2601) ≠ 0; omega)
      omega
    · omega
theorem xs_1 {K : PK} {tp : List Int} (ht : TpOK tp) (hK3 : K 3 = some (6, zA kc3)) (hK13 : K 13 = some (3, zA kc13)) {m : Nat} (hP : XP K tp m) : XC K tp (m + 1) 1 89 4 [] := by
  obtain ⟨p0, p1, p2, p3, p8, p4, p10, p5, p12, l6, l7, l8, l9, l11⟩ := hP
  intro D u dp r0 sc ar tx oc rl ou tl q hdu hdp hD hR hF
  have ht1 := ht.1
  obtain ⟨⟨hs, hl⟩, hA, hZ, hW, hWr, hG⟩ := id hR
  refine CQ.of (own := 7) (n := 4) (ini := false) (rt := none) (cd := cd89) (by decide +kernel) rfl (by decide +kernel) rfl (Nat.le_of_ble_eq_true rfl) ?_
  rw [show rsq r0 (rd tp (m + 1) 1 dp) = rsq (rsq r0 (rd tp m 0 dp)) (rd tp m 6 dp) from rsq_a.symm]
  refine RQ.seg 2 (pc' := 2) (L' := [some (.ref 26), some (.int (iI dp)), none, none]) (st' := [.int (iI dp), .ref 26]) (g1 := (HW sc ar tx oc rl ou tl, q)) rfl ?_
  refine RQ.callQ rfl rfl (CQ.up (p0 (D - 1) (u) (dp) (r0) _ _ _ _ _ _ _ _ (by omega) (by omega) (by omega) hR (fun z => by have z1 : 16 * ((tp.length : Int) - r0.2.1) + 2 ≤ ((m + 1 : Nat) : Int) := hF z; show 16 * ((tp.length : Int) - r0.2.1) + 1 ≤ (m : Int); omega)) (by omega)) (fun rv g1 hc9 => ?_)
  obtain ⟨rfl, sc1, ar1, rfl, hs1, ha1, hR_1⟩ := hc9
  obtain ⟨⟨hs_1, hl_1⟩, hA_1, hZ_1, hW_1, hWr_1, hG_1⟩ := id hR_1
  have hS_1 : Same ruF sc sc1 := hs1
  have hT_1 : Same ruA ar ar1 := ha1
  refine RQ.seg 2 (pc' := 7) (L' := [some (.ref 26), some (.int (iI dp)), some (.int (iI 0)), none]) (st' := []) (g1 := (HW sc1 ar1 tx oc rl ou tl, q)) rfl ?_
  refine RQ.im (l6 D u dp 0 _ (rsq r0 (rd tp m 0 dp)) sc1 ar1 tx oc rl ou tl q hdu hdp (by omega) (by omega) hR_1 (fun z => ?_)) (fun v g h => QX.tr hs1 ha1 h)
  rcases Decidable.em (r0.1 = -1) with he | hE
  · rw [rsq_p he] at z ⊢
    have z1 : 16 * ((tp.length : Int) - r0.2.1) + 2 ≤ ((m + 1 : Nat) : Int) := hF he
    have g9 := hG he
    have z2 : r0.2.1 + 1 ≤ (rd tp m 0 dp r0.2.1).2.1 ∧ _ := ((rd_ok (tp := tp) m).at 0 dp (a := r0.2.1) (by omega)).2 z
    refine ⟨?_, ?_⟩
    · show 16 * ((tp.length : Int) - (rd tp m 0 dp r0.2.1).2.1) + 1 ≤ (m : Int); omega
    · show (0 : Int) + 1 ≤ (rd tp m 0 dp r0.2.1).2.1; omega
  · rw [rsq_b hE] at z; exact absurd z hE
theorem xs_2 {K : PK} {tp : List Int} (ht : TpOK tp) (hK3 : K 3 = some (6, zA kc3)) (hK13 : K 13 = some (3, zA kc13)) {m : Nat} (hP : XP K tp m) : XC K tp (m + 1) 2 88 5 [] := by
  obtain ⟨p0, p1, p2, p3, p8, p4, p10, p5, p12, l6, l7, l8, l9, l11⟩ := hP
  intro D u dp r0 sc ar tx oc rl ou tl q hdu hdp hD hR hF
  have ht1 := ht.1
  obtain ⟨⟨hs, hl⟩, hA, hZ, hW, hWr, hG⟩ := id hR
  refine CQ.of (own := 7) (n := 4) (ini := false) (rt := none) (cd := cd88) (by decide +kernel) rfl (by decide +kernel) rfl (Nat.le_of_ble_eq_true rfl) ?_
  rw [show rsq r0 (rd tp (m + 1) 2 dp) = rsq (rsq r0 (rd tp m 1 dp)) (rd tp m 7 dp) from rsq_a.symm]
  refine RQ.seg 2 (pc' := 2) (L' := [some (.ref 26), some (.int (iI dp)), none, none]) (st' := [.int (iI dp), .ref 26]) (g1 := (HW sc ar tx oc rl ou tl, q)) rfl ?_
  refine RQ.callQ rfl rfl (CQ.up (p1 (D - 1) (u) (dp) (r0) _ _ _ _ _ _ _ _ (by omega) (by omega) (by omega) hR (fun z => by have z1 : 16 * ((tp.length : Int) - r0.2.1) + 3 ≤ ((m + 1 : Nat) : Int) := hF z; show 16 * ((tp.length : Int) - r0.2.1) + 2 ≤ (m : Int); omega)) (by omega)) (fun rv g1 hc9 => ?_)
  obtain ⟨rfl, sc1, ar1, rfl, hs1, ha1, hR_1⟩ := hc9
  obtain ⟨⟨hs_1, hl_1⟩, hA_1, hZ_1, hW_1, hWr_1, hG_1⟩ := id hR_1
  have hS_1 : Same ruF sc sc1 := hs1
  have hT_1 : Same ruA ar ar1 := ha1
  refine RQ.seg 2 (pc' := 7) (L' := [some (.ref 26), some (.int (iI dp)), some (.int (iI 0)), none]) (st' := []) (g1 := (HW sc1 ar1 tx oc rl ou tl, q)) rfl ?_
  refine RQ.im (l7 D u dp 0 _ (rsq r0 (rd tp m 1 dp)) sc1 ar1 tx oc rl ou tl q hdu hdp (by omega) (by omega) hR_1 (fun z => ?_)) (fun v g h => QX.tr hs1 ha1 h)
  rcases Decidable.em (r0.1 = -1) with he | hE
  · rw [rsq_p he] at z ⊢
    have z1 : 16 * ((tp.length : Int) - r0.2.1) + 3 ≤ ((m + 1 : Nat) : Int) := hF he
    have g9 := hG he
    have z2 : r0.2.1 + 1 ≤ (rd tp m 1 dp r0.2.1).2.1 ∧ _ := ((rd_ok (tp := tp) m).at 1 dp (a := r0.2.1) (by omega)).2 z
    refine ⟨?_, ?_⟩
    · show 16 * ((tp.length : Int) - (rd tp m 1 dp r0.2.1).2.1) + 1 ≤ (m : Int); omega
    · show (0 : Int) + 1 ≤ (rd tp m 1 dp r0.2.1).2.1; omega
  · rw [rsq_b hE] at z; exact absurd z hE
theorem xs_4 {K : PK} {tp : List Int} (ht : TpOK tp) (hK3 : K 3 = some (6, zA kc3)) (hK13 : K 13 = some (3, zA kc13)) {m : Nat} (hP : XP K tp m) : XC K tp (m + 1) 4 86 7 [.int (iI 0)] := by
  obtain ⟨p0, p1, p2, p3, p8, p4, p10, p5, p12, l6, l7, l8, l9, l11⟩ := hP
  intro D u dp r0 sc ar tx oc rl ou tl q hdu hdp hD hR hF
  have ht1 := ht.1
  obtain ⟨⟨hs, hl⟩, hA, hZ, hW, hWr, hG⟩ := id hR
  refine CQ.of (own := 7) (n := 4) (ini := false) (rt := none) (cd := cd86) (by decide +kernel) rfl (by decide +kernel) rfl (Nat.le_of_ble_eq_true rfl) ?_
  rw [show rsq r0 (rd tp (m + 1) 4 dp) = rsq (rsq r0 (rd tp m 3 dp)) (rd tp m 9 dp) from rsq_a.symm]
  refine RQ.seg 3 (pc' := 3) (L' := [some (.ref 26), some (.int (iI dp)), some (.int (iI 0)), none]) (st' := [.int (iI 0), .int (iI dp), .ref 26]) (g1 := (HW sc ar tx oc rl ou tl, q)) rfl ?_
  refine RQ.callQ rfl rfl (CQ.up (p3 (D - 1) (u) (dp) (r0) _ _ _ _ _ _ _ _ (by omega) (by omega) (by omega) hR (fun z => by have z1 : 16 * ((tp.length : Int) - r0.2.1) + 5 ≤ ((m + 1 : Nat) : Int) := hF z; show 16 * ((tp.length : Int) - r0.2.1) + 4 ≤ (m : Int); omega)) (by omega)) (fun rv g1 hc9 => ?_)
  obtain ⟨rfl, sc1, ar1, rfl, hs1, ha1, hR_1⟩ := hc9
  obtain ⟨⟨hs_1, hl_1⟩, hA_1, hZ_1, hW_1, hWr_1, hG_1⟩ := id hR_1
  have hS_1 : Same ruF sc sc1 := hs1
  have hT_1 : Same ruA ar ar1 := ha1
  refine RQ.seg 2 (pc' := 8) (L' := [some (.ref 26), some (.int (iI dp)), some (.int (iI 0)), some (.int (iI 0))]) (st' := []) (g1 := (HW sc1 ar1 tx oc rl ou tl, q)) rfl ?_
  refine RQ.im (l9 D u dp 0 _ (rsq r0 (rd tp m 3 dp)) sc1 ar1 tx oc rl ou tl q hdu hdp (by omega) (by omega) hR_1 (fun z => ?_)) (fun v g h => QX.tr hs1 ha1 h)
  rcases Decidable.em (r0.1 = -1) with he | hE
  · rw [rsq_p he] at z ⊢
    have z1 : 16 * ((tp.length : Int) - r0.2.1) + 5 ≤ ((m + 1 : Nat) : Int) := hF he
    have g9 := hG he
    have z2 : r0.2.1 + 1 ≤ (rd tp m 3 dp r0.2.1).2.1 ∧ _ := ((rd_ok (tp := tp) m).at 3 dp (a := r0.2.1) (by omega)).2 z
    refine ⟨?_, ?_⟩
    · show 16 * ((tp.length : Int) - (rd tp m 3 dp r0.2.1).2.1) + 1 ≤ (m : Int); omega
    · show (0 : Int) + 1 ≤ (rd tp m 3 dp r0.2.1).2.1; omega
  · rw [rsq_b hE] at z; exact absurd z hE
theorem xs_10 {K : PK} {tp : List Int} (ht : TpOK tp) (hK3 : K 3 = some (6, zA kc3)) (hK13 : K 13 = some (3, zA kc13)) {m : Nat} (hP : XP K tp m) : XC K tp (m + 1) 10 86 7 [.int (iI 1)] := by
  obtain ⟨p0, p1, p2, p3, p8, p4, p10, p5, p12, l6, l7, l8, l9, l11⟩ := hP
  intro D u dp r0 sc ar tx oc rl ou tl q hdu hdp hD hR hF
  have ht1 := ht.1
  obtain ⟨⟨hs, hl⟩, hA, hZ, hW, hWr, hG⟩ := id hR
  refine CQ.of (own := 7) (n := 4) (ini := false) (rt := none) (cd := cd86) (by decide +kernel) rfl (by decide +kernel) rfl (Nat.le_of_ble_eq_true rfl) ?_
  rw [show rsq r0 (rd tp (m + 1) 10 dp) = rsq (rsq r0 (rd tp m 8 dp)) (rd tp m 9 dp) from rsq_a.symm]
  refine RQ.seg 3 (pc' := 3) (L' := [some (.ref 26), some (.int (iI dp)), some (.int (iI 1)), none]) (st' := [.int (iI 1), .int (iI dp), .ref 26]) (g1 := (HW sc ar tx oc rl ou tl, q)) rfl ?_
  refine RQ.callQ rfl rfl (CQ.up (p8 (D - 1) (u) (dp) (r0) _ _ _ _ _ _ _ _ (by omega) (by omega) (by omega) hR (fun z => by have z1 : 16 * ((tp.length : Int) - r0.2.1) + 2 ≤ ((m + 1 : Nat) : Int) := hF z; show 16 * ((tp.length : Int) - r0.2.1) + 1 ≤ (m : Int); omega)) (by omega)) (fun rv g1 hc9 => ?_)
  obtain ⟨rfl, sc1, ar1, rfl, hs1, ha1, hR_1⟩ := hc9
  obtain ⟨⟨hs_1, hl_1⟩, hA_1, hZ_1, hW_1, hWr_1, hG_1⟩ := id hR_1
  have hS_1 : Same ruF sc sc1 := hs1
  have hT_1 : Same ruA ar ar1 := ha1
  refine RQ.seg 2 (pc' := 8) (L' := [some (.ref 26), some (.int (iI dp)), some (.int (iI 1)), some (.int (iI 0))]) (st' := []) (g1 := (HW sc1 ar1 tx oc rl ou tl, q)) rfl ?_
  refine RQ.im (l9 D u dp 0 _ (rsq r0 (rd tp m 8 dp)) sc1 ar1 tx oc rl ou tl q hdu hdp (by omega) (by omega) hR_1 (fun z => ?_)) (fun v g h => QX.tr hs1 ha1 h)
  rcases Decidable.em (r0.1 = -1) with he | hE
  · rw [rsq_p he] at z ⊢
    have z1 : 16 * ((tp.length : Int) - r0.2.1) + 2 ≤ ((m + 1 : Nat) : Int) := hF he
    have g9 := hG he
    have z2 : r0.2.1 + 1 ≤ (rd tp m 8 dp r0.2.1).2.1 ∧ _ := ((rd_ok (tp := tp) m).at 8 dp (a := r0.2.1) (by omega)).2 z
    refine ⟨?_, ?_⟩
    · show 16 * ((tp.length : Int) - (rd tp m 8 dp r0.2.1).2.1) + 1 ≤ (m : Int); omega
    · show (0 : Int) + 1 ≤ (rd tp m 8 dp r0.2.1).2.1; omega
  · rw [rsq_b hE] at z; exact absurd z hE
theorem xs_5 {K : PK} {tp : List Int} (ht : TpOK tp) (hK3 : K 3 = some (6, zA kc3)) (hK13 : K 13 = some (3, zA kc13)) {m : Nat} (hP : XP K tp m) : XC K tp (m + 1) 5 85 8 [.int (iI 0)] := by
  obtain ⟨p0, p1, p2, p3, p8, p4, p10, p5, p12, l6, l7, l8, l9, l11⟩ := hP
  intro D u dp r0 sc ar tx oc rl ou tl q hdu hdp hD hR hF
  have ht1 := ht.1
  obtain ⟨⟨hs, hl⟩, hA, hZ, hW, hWr, hG⟩ := id hR
  refine CQ.of (own := 7) (n := 4) (ini := false) (rt := none) (cd := cd85) (by decide +kernel) rfl (by decide +kernel) rfl (Nat.le_of_ble_eq_true rfl) ?_
  rw [show rsq r0 (rd tp (m + 1) 5 dp) = rsq (rsq r0 (rd tp m 4 dp)) (rd tp m 11 dp) from rsq_a.symm]
  refine RQ.seg 3 (pc' := 3) (L' := [some (.ref 26), some (.int (iI dp)), some (.int (iI 0)), none]) (st' := [.int (iI 0), .int (iI dp), .ref 26]) (g1 := (HW sc ar tx oc rl ou tl, q)) rfl ?_
  refine RQ.callQ rfl rfl (CQ.up (p4 (D - 1) (u) (dp) (r0) _ _ _ _ _ _ _ _ (by omega) (by omega) (by omega) hR (fun z => by have z1 : 16 * ((tp.length : Int) - r0.2.1) + 6 ≤ ((m + 1 : Nat) : Int) := hF z; show 16 * ((tp.length : Int) - r0.2.1) + 5 ≤ (m : Int); omega)) (by omega)) (fun rv g1 hc9 => ?_)
  obtain ⟨rfl, sc1, ar1, rfl, hs1, ha1, hR_1⟩ := hc9
  obtain ⟨⟨hs_1, hl_1⟩, hA_1, hZ_1, hW_1, hWr_1, hG_1⟩ := id hR_1
  have hS_1 : Same ruF sc sc1 := hs1
  have hT_1 : Same ruA ar ar1 := ha1
  refine RQ.seg 2 (pc' := 8) (L' := [some (.ref 26), some (.int (iI dp)), some (.int (iI 0)), some (.int (iI 0))]) (st' := []) (g1 := (HW sc1 ar1 tx oc rl ou tl, q)) rfl ?_
  refine RQ.im (l11 D u dp 0 _ (rsq r0 (rd tp m 4 dp)) sc1 ar1 tx oc rl ou tl q hdu hdp (by omega) (by omega) hR_1 (fun z => ?_)) (fun v g h => QX.tr hs1 ha1 h)
  rcases Decidable.em (r0.1 = -1) with he | hE
  · rw [rsq_p he] at z ⊢
    have z1 : 16 * ((tp.length : Int) - r0.2.1) + 6 ≤ ((m + 1 : Nat) : Int) := hF he
    have g9 := hG he
    have z2 : r0.2.1 + 1 ≤ (rd tp m 4 dp r0.2.1).2.1 ∧ _ := ((rd_ok (tp := tp) m).at 4 dp (a := r0.2.1) (by omega)).2 z
    refine ⟨?_, ?_⟩
    · show 16 * ((tp.length : Int) - (rd tp m 4 dp r0.2.1).2.1) + 1 ≤ (m : Int); omega
    · show (0 : Int) + 1 ≤ (rd tp m 4 dp r0.2.1).2.1; omega
  · rw [rsq_b hE] at z; exact absurd z hE
theorem xs_12 {K : PK} {tp : List Int} (ht : TpOK tp) (hK3 : K 3 = some (6, zA kc3)) (hK13 : K 13 = some (3, zA kc13)) {m : Nat} (hP : XP K tp m) : XC K tp (m + 1) 12 85 8 [.int (iI 1)] := by
  obtain ⟨p0, p1, p2, p3, p8, p4, p10, p5, p12, l6, l7, l8, l9, l11⟩ := hP
  intro D u dp r0 sc ar tx oc rl ou tl q hdu hdp hD hR hF
  have ht1 := ht.1
  obtain ⟨⟨hs, hl⟩, hA, hZ, hW, hWr, hG⟩ := id hR
  refine CQ.of (own := 7) (n := 4) (ini := false) (rt := none) (cd := cd85) (by decide +kernel) rfl (by decide +kernel) rfl (Nat.le_of_ble_eq_true rfl) ?_
  rw [show rsq r0 (rd tp (m + 1) 12 dp) = rsq (rsq r0 (rd tp m 10 dp)) (rd tp m 11 dp) from rsq_a.symm]
  refine RQ.seg 3 (pc' := 3) (L' := [some (.ref 26), some (.int (iI dp)), some (.int (iI 1)), none]) (st' := [.int (iI 1), .int (iI dp), .ref 26]) (g1 := (HW sc ar tx oc rl ou tl, q)) rfl ?_
  refine RQ.callQ rfl rfl (CQ.up (p10 (D - 1) (u) (dp) (r0) _ _ _ _ _ _ _ _ (by omega) (by omega) (by omega) hR (fun z => by have z1 : 16 * ((tp.length : Int) - r0.2.1) + 3 ≤ ((m + 1 : Nat) : Int) := hF z; show 16 * ((tp.length : Int) - r0.2.1) + 2 ≤ (m : Int); omega)) (by omega)) (fun rv g1 hc9 => ?_)
  obtain ⟨rfl, sc1, ar1, rfl, hs1, ha1, hR_1⟩ := hc9
  obtain ⟨⟨hs_1, hl_1⟩, hA_1, hZ_1, hW_1, hWr_1, hG_1⟩ := id hR_1
  have hS_1 : Same ruF sc sc1 := hs1
  have hT_1 : Same ruA ar ar1 := ha1
  refine RQ.seg 2 (pc' := 8) (L' := [some (.ref 26), some (.int (iI dp)), some (.int (iI 1)), some (.int (iI 0))]) (st' := []) (g1 := (HW sc1 ar1 tx oc rl ou tl, q)) rfl ?_
  refine RQ.im (l11 D u dp 0 _ (rsq r0 (rd tp m 10 dp)) sc1 ar1 tx oc rl ou tl q hdu hdp (by omega) (by omega) hR_1 (fun z => ?_)) (fun v g h => QX.tr hs1 ha1 h)
  rcases Decidable.em (r0.1 = -1) with he | hE
  · rw [rsq_p he] at z ⊢
    have z1 : 16 * ((tp.length : Int) - r0.2.1) + 3 ≤ ((m + 1 : Nat) : Int) := hF he
    have g9 := hG he
    have z2 : r0.2.1 + 1 ≤ (rd tp m 10 dp r0.2.1).2.1 ∧ _ := ((rd_ok (tp := tp) m).at 10 dp (a := r0.2.1) (by omega)).2 z
    refine ⟨?_, ?_⟩
    · show 16 * ((tp.length : Int) - (rd tp m 10 dp r0.2.1).2.1) + 1 ≤ (m : Int); omega
    · show (0 : Int) + 1 ≤ (rd tp m 10 dp r0.2.1).2.1; omega
  · rw [rsq_b hE] at z; exact absurd z hE
theorem xz_6 {K : PK} {tp : List Int} (ht : TpOK tp) (hK3 : K 3 = some (6, zA kc3)) (hK13 : K 13 = some (3, zA kc13)) {m : Nat} : XL6 K tp 0 := by
  intro D u dp n e3 r0 sc ar tx oc rl ou tl q hdu hdp hD hn hR hF
  rcases Decidable.em (r0.1 = -1) with he | hE
  · exfalso
    have z1 : 16 * ((tp.length : Int) - r0.2.1) + 1 ≤ ((0 : Nat) : Int) := (hF he).1
    have z2 := hR.2.1
    have z3 := (hR.2.2.2.2.2 he).1
    omega
  · skip
    have ht1 := ht.1
    obtain ⟨⟨hs, hl⟩, hA, hZ, hW, hWr, hG⟩ := id hR
    rw [rsq_b hE]
    rcases Decidable.em (n < 160) with hn9 | hn9
    · skip
      refine RQ.seg 2 (pc' := 11) (L' := [some (.ref 26), some (.int (iI dp)), some (.int (iI n)), e3]) (st' := [.int (iI 160), .int (iI n)]) (g1 := (HW sc ar tx oc rl ou tl, q)) rfl ?_
      refine RQ.if2 (a := n) (b := 160) rfl rfl rfl rfl (by omega) (by omega) (fun (q : 160 ≤ n) => absurd q (show ¬ 160 ≤ n from by omega)) (fun _ => ?_)
      refine RQ.seg 1 (pc' := 15) (L' := [some (.ref 26), some (.int (iI dp)), some (.int (iI n)), e3]) (st' := [.ref 26]) (g1 := (HW sc ar tx oc rl ou tl, q)) rfl ?_
      refine RQ.call rfl rfl (CallR.up (d := 1) (x_fine26f (d := 0) (sc := sc) (ar := ar) (by show -1 ≤ sc 2602 ∧ sc 2602 ≤ 200; omega) (by show ¬ sc 2602 = -1; omega)) (by omega)) ?_
      refine RQ.seg 1 (pc' := 80) (L' := [some (.ref 26), some (.int (iI dp)), some (.int (iI n)), e3]) (st' := []) (g1 := (HW sc ar tx oc rl ou tl, q)) rfl ?_
      refine RQ.ret rfl rfl ?_
      exact ⟨rfl, _, _, rfl, by repeat (first | exact Same.rf | refine Same.us rfl ?_), by repeat (first | exact Same.rf | refine Same.us rfl ?_), RX.bad hR hE rfl rfl (by show 0 ≤ sc 2601 ∧ sc 2601 ≤ _; omega) (by show 0 ≤ sc 2701 ∧ sc 2701 ≤ 161; omega) rfl⟩
    · skip
      refine RQ.seg 2 (pc' := 11) (L' := [some (.ref 26), some (.int (iI dp)), some (.int (iI n)), e3]) (st' := [.int (iI 160), .int (iI n)]) (g1 := (HW sc ar tx oc rl ou tl, q)) rfl ?_
      refine RQ.if2 (a := n) (b := 160) rfl rfl rfl rfl (by omega) (by omega) (fun _ => ?_) (fun (q : ¬ 160 ≤ n) => absurd (show 160 ≤ n from by omega) q)
      refine RQ.ret rfl rfl ?_
      exact ⟨rfl, _, _, rfl, by repeat (first | exact Same.rf | refine Same.us rfl ?_), by repeat (first | exact Same.rf | refine Same.us rfl ?_), RX.bad hR hE rfl rfl (by show 0 ≤ sc 2601 ∧ sc 2601 ≤ _; omega) (by show 0 ≤ sc 2701 ∧ sc 2701 ≤ 161; omega) rfl⟩
theorem xl_6 {K : PK} {tp : List Int} (ht : TpOK tp) (hK3 : K 3 = some (6, zA kc3)) (hK13 : K 13 = some (3, zA kc13)) {m : Nat} (hP : XP K tp m) : XL6 K tp (m + 1) := by
  obtain ⟨p0, p1, p2, p3, p8, p4, p10, p5, p12, l6, l7, l8, l9, l11⟩ := hP
  intro D u dp n e3 r0 sc ar tx oc rl ou tl q hdu hdp hD hn hR hF
  rcases Decidable.em (r0.1 = -1) with he | hE
  · skip
    have ht1 := ht.1
    obtain ⟨⟨hs, hl⟩, hA, hZ, hW, hWr, hG⟩ := id hR
    obtain ⟨g1, g2, g3, g4⟩ := hG he
    have hw1 : sc 2602 = -1 := hW.trans he
    have hsk := sk_r (tp := tp) (p := r0.2.1) (by omega)
    have hlr := tch_r ht (sk tp r0.2.1)
    have hlk : 0 ≤ lk tp r0.2.1 ∧ lk tp r0.2.1 ≤ 255 := hlr
    have hFu : 16 * ((tp.length : Int) - r0.2.1) + 1 ≤ ((m + 1 : Nat) : Int) := (hF he).1
    have hn1 := (hF he).2
    refine RQ.seg 2 (pc' := 11) (L' := [some (.ref 26), some (.int (iI dp)), some (.int (iI n)), e3]) (st' := [.int (iI 160), .int (iI n)]) (g1 := (HW sc ar tx oc rl ou tl, q)) rfl ?_
    refine RQ.if2 (a := n) (b := 160) rfl rfl rfl rfl (by omega) (by omega) (fun (q : 160 ≤ n) => absurd q (show ¬ 160 ≤ n from by omega)) (fun _ => ?_)
    refine RQ.seg 1 (pc' := 15) (L' := [some (.ref 26), some (.int (iI dp)), some (.int (iI n)), e3]) (st' := [.ref 26]) (g1 := (HW sc ar tx oc rl ou tl, q)) rfl ?_
    refine RQ.call rfl rfl (CallR.up (d := 1) (x_fine26t (d := 0) (sc := sc) (ar := ar) (by show -1 ≤ sc 2602 ∧ sc 2602 ≤ 200; omega) (by show sc 2602 = -1; omega)) (by omega)) ?_
    refine RQ.seg 2 (pc' := 22) (L' := [some (.ref 26), some (.int (iI dp)), some (.int (iI n)), e3]) (st' := [.ref 26]) (g1 := (HW sc ar tx oc rl ou tl, q)) rfl ?_
    refine RQ.call rfl rfl (CallR.up (d := 1) (x_look26 (d := 0) (sc := sc) (ar := ar) (a := r0.2.1) ht hs hl g1 (by omega)) (by omega)) ?_
    refine RQ.seg 3 (pc' := 29) (L' := [some (.ref 26), some (.int (iI dp)), some (.int (iI n)), some (.int (iI (lk tp r0.2.1)))]) (st' := [.int (iI 42), .int (iI (lk tp r0.2.1))]) (g1 := (HW (usc sc 2601 (sk tp r0.2.1)) ar tx oc rl ou tl, q)) rfl ?_
    refine RQ.if2 (a := (lk tp r0.2.1)) (b := 42) rfl rfl rfl rfl (by omega) (by omega) (fun (h2 : lk tp r0.2.1 = 42) => ?_) (fun (h2 : ¬ lk tp r0.2.1 = 42) => ?_)
    · skip
      refine RQ.seg 5 (pc' := 46) (L' := [some (.ref 26), some (.int (iI dp)), some (.int (iI n)), some (.int (iI (lk tp r0.2.1)))]) (st' := [.int ((iI (sk tp r0.2.1)) + (iI 1)), .ref 26]) (g1 := (HW (usc sc 2601 (sk tp r0.2.1)) ar tx oc rl ou tl, q)) rfl ?_
      refine RQ.to (L' := [some (.ref 26), some (.int (iI dp)), some (.int (iI n)), some (.int (iI (lk tp r0.2.1)))]) (st' := [.int (iI (sk tp r0.2.1 + 1)), .ref 26]) rfl (by simp only [iI_add, iI_sub, iI_mul, iI_neg]) ?_
      refine RQ.seg 3 (pc' := 51) (L' := [some (.ref 26), some (.int (iI dp)), some (.int (iI n)), some (.int (iI (lk tp r0.2.1)))]) (st' := [.int (iI dp), .ref 26]) (g1 := (HW (usc sc 2601 (sk tp r0.2.1 + 1)) ar tx oc rl ou tl, q)) rfl ?_
      have hps := lk_in (tp := tp) (a := r0.2.1) (by omega) (by omega)
      refine RQ.callQ rfl rfl (CQ.up (p0 (D - 1) (u) (dp) (((-1, sk tp r0.2.1 + 1, r0.2.2) : RS)) _ _ _ _ _ _ _ _ (by omega) (by omega) (by omega) (RX.mv hR he (by omega)) (fun _ => by show 16 * ((tp.length : Int) - (sk tp r0.2.1 + 1)) + 1 ≤ (m : Int); omega)) (by omega)) (fun rv g1 hc9 => ?_)
      obtain ⟨rfl, sc1, ar1, rfl, hs1, ha1, hR_1⟩ := hc9
      obtain ⟨⟨hs_1, hl_1⟩, hA_1, hZ_1, hW_1, hWr_1, hG_1⟩ := id hR_1
      have hS_1 : Same ruF sc sc1 := Same.tr Same.rf (Same.tr (by repeat (first | exact Same.rf | refine Same.us rfl ?_)) hs1)
      have hT_1 : Same ruA ar ar1 := Same.tr Same.rf (Same.tr (by repeat (first | exact Same.rf | refine Same.us rfl ?_)) ha1)
      refine RQ.seg 4 (pc' := 61) (L' := [some (.ref 26), some (.int (iI dp)), some (.int (iI n)), some (.int (iI (lk tp r0.2.1)))]) (st' := [.int (iI 42), .int (iI (lk tp r0.2.1)), .ref 27]) (g1 := (HW sc1 ar1 tx oc rl ou tl, q)) rfl ?_
      refine RQ.if2 (a := (lk tp r0.2.1)) (b := 42) rfl rfl rfl rfl (by omega) (by omega) (fun (h3 : lk tp r0.2.1 ≠ 42) => ?_) (fun (h3 : ¬ lk tp r0.2.1 ≠ 42) => ?_)
      · skip
        refine RQ.seg 1 (pc' := 71) (L' := [some (.ref 26), some (.int (iI dp)), some (.int (iI n)), some (.int (iI (lk tp r0.2.1)))]) (st' := [.int (iI (-4)), .ref 27]) (g1 := (HW sc1 ar1 tx oc rl ou tl, q)) rfl ?_
        refine RQ.callQ rfl rfl (CQ.up (x_app (d := 0) (r0 := rsq (((-1, sk tp r0.2.1 + 1, r0.2.2) : RS)) (rd tp m 0 (dp))) (x := (-4)) ht hR_1 (by omega) (by rw [rsq_1]; exact pre_sl ((rd_ok (tp := tp) m).at 0 dp (a := sk tp r0.2.1 + 1) (by omega)) (by omega))) (by omega)) (fun rv g1 hc9 => ?_)
        obtain ⟨rfl, sc2, ar2, rfl, hs2, ha2, hR_2⟩ := hc9
        obtain ⟨⟨hs_2, hl_2⟩, hA_2, hZ_2, hW_2, hWr_2, hG_2⟩ := id hR_2
        have hS_2 : Same ruF sc sc2 := Same.tr hS_1 (Same.tr (by repeat (first | exact Same.rf | refine Same.us rfl ?_)) hs2)
        have hT_2 : Same ruA ar ar2 := Same.tr hT_1 (Same.tr (by repeat (first | exact Same.rf | refine Same.us rfl ?_)) ha2)
        refine RQ.seg 2 (pc' := 7) (L' := [some (.ref 26), some (.int (iI dp)), some (.int ((iI n) + (iI 1))), some (.int (iI (lk tp r0.2.1)))]) (st' := []) (g1 := (HW sc2 ar2 tx oc rl ou tl, q)) rfl ?_
        refine RQ.to (L' := [some (.ref 26), some (.int (iI dp)), some (.int (iI (n + 1))), some (.int (iI (lk tp r0.2.1)))]) (st' := []) (by simp only [iI_add, iI_sub, iI_mul, iI_neg]) rfl ?_
        have eT : rsq r0 (rd tp (m + 1) 6 dp) = rsq (rap (rsq (((-1, sk tp r0.2.1 + 1, r0.2.2) : RS)) (rd tp m 0 (dp))) ((-4))) (rd tp m 6 dp) := by
          rw [rsq_p he, show rd tp (m + 1) 6 dp r0.2.1 = rsq (rap (rd tp m 0 dp (sk tp r0.2.1 + 1)) ((-4))) (rd tp m 6 dp) by show rTl tp (rd tp m) dp r0.2.1 = _; unfold rTl; rw [if_pos (by omega), if_neg (by omega)], rsq_1, pre_ap, pre_sq]
        rw [eT]
        refine RQ.im (l6 D u dp (n + 1) _ (rap (rsq (((-1, sk tp r0.2.1 + 1, r0.2.2) : RS)) (rd tp m 0 (dp))) ((-4))) sc2 ar2 tx oc rl ou tl q hdu hdp (by omega) (by omega) hR_2 (fun z => ?_)) (fun v g h => QX.tr hS_2 hT_2 h)
        rw [rsq_1] at z ⊢
        have z2 : sk tp r0.2.1 + 1 + 1 ≤ (rd tp m 0 dp (sk tp r0.2.1 + 1)).2.1 ∧ _ := ((rd_ok (tp := tp) m).at 0 dp (a := sk tp r0.2.1 + 1) (by omega)).2 z
        refine ⟨?_, ?_⟩
        · show 16 * ((tp.length : Int) - (rd tp m 0 dp (sk tp r0.2.1 + 1)).2.1) + 1 ≤ (m : Int); omega
        · show n + 1 + 1 ≤ (rd tp m 0 dp (sk tp r0.2.1 + 1)).2.1; omega
      · skip
        refine RQ.seg 2 (pc' := 71) (L' := [some (.ref 26), some (.int (iI dp)), some (.int (iI n)), some (.int (iI (lk tp r0.2.1)))]) (st' := [.int (iI (-3)), .ref 27]) (g1 := (HW sc1 ar1 tx oc rl ou tl, q)) rfl ?_
        refine RQ.callQ rfl rfl (CQ.up (x_app (d := 0) (r0 := rsq (((-1, sk tp r0.2.1 + 1, r0.2.2) : RS)) (rd tp m 0 (dp))) (x := (-3)) ht hR_1 (by omega) (by rw [rsq_1]; exact pre_sl ((rd_ok (tp := tp) m).at 0 dp (a := sk tp r0.2.1 + 1) (by omega)) (by omega))) (by omega)) (fun rv g1 hc9 => ?_)
        obtain ⟨rfl, sc2, ar2, rfl, hs2, ha2, hR_2⟩ := hc9
        obtain ⟨⟨hs_2, hl_2⟩, hA_2, hZ_2, hW_2, hWr_2, hG_2⟩ := id hR_2
        have hS_2 : Same ruF sc sc2 := Same.tr hS_1 (Same.tr (by repeat (first | exact Same.rf | refine Same.us rfl ?_)) hs2)
        have hT_2 : Same ruA ar ar2 := Same.tr hT_1 (Same.tr (by repeat (first | exact Same.rf | refine Same.us rfl ?_)) ha2)
        refine RQ.seg 2 (pc' := 7) (L' := [some (.ref 26), some (.int (iI dp)), some (.int ((iI n) + (iI 1))), some (.int (iI (lk tp r0.2.1)))]) (st' := []) (g1 := (HW sc2 ar2 tx oc rl ou tl, q)) rfl ?_
        refine RQ.to (L' := [some (.ref 26), some (.int (iI dp)), some (.int (iI (n + 1))), some (.int (iI (lk tp r0.2.1)))]) (st' := []) (by simp only [iI_add, iI_sub, iI_mul, iI_neg]) rfl ?_
        have eT : rsq r0 (rd tp (m + 1) 6 dp) = rsq (rap (rsq (((-1, sk tp r0.2.1 + 1, r0.2.2) : RS)) (rd tp m 0 (dp))) ((-3))) (rd tp m 6 dp) := by
          rw [rsq_p he, show rd tp (m + 1) 6 dp r0.2.1 = rsq (rap (rd tp m 0 dp (sk tp r0.2.1 + 1)) ((-3))) (rd tp m 6 dp) by show rTl tp (rd tp m) dp r0.2.1 = _; unfold rTl; rw [if_pos (by omega), if_pos (by omega)], rsq_1, pre_ap, pre_sq]
        rw [eT]
        refine RQ.im (l6 D u dp (n + 1) _ (rap (rsq (((-1, sk tp r0.2.1 + 1, r0.2.2) : RS)) (rd tp m 0 (dp))) ((-3))) sc2 ar2 tx oc rl ou tl q hdu hdp (by omega) (by omega) hR_2 (fun z => ?_)) (fun v g h => QX.tr hS_2 hT_2 h)
        rw [rsq_1] at z ⊢
        have z2 : sk tp r0.2.1 + 1 + 1 ≤ (rd tp m 0 dp (sk tp r0.2.1 + 1)).2.1 ∧ _ := ((rd_ok (tp := tp) m).at 0 dp (a := sk tp r0.2.1 + 1) (by omega)).2 z
        refine ⟨?_, ?_⟩
        · show 16 * ((tp.length : Int) - (rd tp m 0 dp (sk tp r0.2.1 + 1)).2.1) + 1 ≤ (m : Int); omega
        · show n + 1 + 1 ≤ (rd tp m 0 dp (sk tp r0.2.1 + 1)).2.1; omega
    · skip
      refine RQ.seg 2 (pc' := 35) (L' := [some (.ref 26), some (.int (iI dp)), some (.int (iI n)), some (.int (iI (lk tp r0.2.1)))]) (st' := [.int (iI 47), .int (iI (lk tp r0.2.1))]) (g1 := (HW (usc sc 2601 (sk tp r0.2.1)) ar tx oc rl ou tl, q)) rfl ?_
      refine RQ.if2 (a := (lk tp r0.2.1)) (b := 47) rfl rfl rfl rfl (by omega) (by omega) (fun (h4 : lk tp r0.2.1 = 47) => ?_) (fun (h4 : ¬ lk tp r0.2.1 = 47) => ?_)
      · skip
        refine RQ.seg 5 (pc' := 46) (L' := [some (.ref 26), some (.int (iI dp)), some (.int (iI n)), some (.int (iI (lk tp r0.2.1)))]) (st' := [.int ((iI (sk tp r0.2.1)) + (iI 1)), .ref 26]) (g1 := (HW (usc sc 2601 (sk tp r0.2.1)) ar tx oc rl ou tl, q)) rfl ?_
        refine RQ.to (L' := [some (.ref 26), some (.int (iI dp)), some (.int (iI n)), some (.int (iI (lk tp r0.2.1)))]) (st' := [.int (iI (sk tp r0.2.1 + 1)), .ref 26]) rfl (by simp only [iI_add, iI_sub, iI_mul, iI_neg]) ?_
        refine RQ.seg 3 (pc' := 51) (L' := [some (.ref 26), some (.int (iI dp)), some (.int (iI n)), some (.int (iI (lk tp r0.2.1)))]) (st' := [.int (iI dp), .ref 26]) (g1 := (HW (usc sc 2601 (sk tp r0.2.1 + 1)) ar tx oc rl ou tl, q)) rfl ?_
        have hps := lk_in (tp := tp) (a := r0.2.1) (by omega) (by omega)
        refine RQ.callQ rfl rfl (CQ.up (p0 (D - 1) (u) (dp) (((-1, sk tp r0.2.1 + 1, r0.2.2) : RS)) _ _ _ _ _ _ _ _ (by omega) (by omega) (by omega) (RX.mv hR he (by omega)) (fun _ => by show 16 * ((tp.length : Int) - (sk tp r0.2.1 + 1)) + 1 ≤ (m : Int); omega)) (by omega)) (fun rv g1 hc9 => ?_)
        obtain ⟨rfl, sc1, ar1, rfl, hs1, ha1, hR_1⟩ := hc9
        obtain ⟨⟨hs_1, hl_1⟩, hA_1, hZ_1, hW_1, hWr_1, hG_1⟩ := id hR_1
        have hS_1 : Same ruF sc sc1 := Same.tr Same.rf (Same.tr (by repeat (first | exact Same.rf | refine Same.us rfl ?_)) hs1)
        have hT_1 : Same ruA ar ar1 := Same.tr Same.rf (Same.tr (by repeat (first | exact Same.rf | refine Same.us rfl ?_)) ha1)
        refine RQ.seg 4 (pc' := 61) (L' := [some (.ref 26), some (.int (iI dp)), some (.int (iI n)), some (.int (iI (lk tp r0.2.1)))]) (st' := [.int (iI 42), .int (iI (lk tp r0.2.1)), .ref 27]) (g1 := (HW sc1 ar1 tx oc rl ou tl, q)) rfl ?_
        refine RQ.if2 (a := (lk tp r0.2.1)) (b := 42) rfl rfl rfl rfl (by omega) (by omega) (fun (h5 : lk tp r0.2.1 ≠ 42) => ?_) (fun (h5 : ¬ lk tp r0.2.1 ≠ 42) => ?_)
        · skip
          refine RQ.seg 1 (pc' := 71) (L' := [some (.ref 26), some (.int (iI dp)), some (.int (iI n)), some (.int (iI (lk tp r0.2.1)))]) (st' := [.int (iI (-4)), .ref 27]) (g1 := (HW sc1 ar1 tx oc rl ou tl, q)) rfl ?_
          refine RQ.callQ rfl rfl (CQ.up (x_app (d := 0) (r0 := rsq (((-1, sk tp r0.2.1 + 1, r0.2.2) : RS)) (rd tp m 0 (dp))) (x := (-4)) ht hR_1 (by omega) (by rw [rsq_1]; exact pre_sl ((rd_ok (tp := tp) m).at 0 dp (a := sk tp r0.2.1 + 1) (by omega)) (by omega))) (by omega)) (fun rv g1 hc9 => ?_)
          obtain ⟨rfl, sc2, ar2, rfl, hs2, ha2, hR_2⟩ := hc9
          obtain ⟨⟨hs_2, hl_2⟩, hA_2, hZ_2, hW_2, hWr_2, hG_2⟩ := id hR_2
          have hS_2 : Same ruF sc sc2 := Same.tr hS_1 (Same.tr (by repeat (first | exact Same.rf | refine Same.us rfl ?_)) hs2)
          have hT_2 : Same ruA ar ar2 := Same.tr hT_1 (Same.tr (by repeat (first | exact Same.rf | refine Same.us rfl ?_)) ha2)
          refine RQ.seg 2 (pc' := 7) (L' := [some (.ref 26), some (.int (iI dp)), some (.int ((iI n) + (iI 1))), some (.int (iI (lk tp r0.2.1)))]) (st' := []) (g1 := (HW sc2 ar2 tx oc rl ou tl, q)) rfl ?_
          refine RQ.to (L' := [some (.ref 26), some (.int (iI dp)), some (.int (iI (n + 1))), some (.int (iI (lk tp r0.2.1)))]) (st' := []) (by simp only [iI_add, iI_sub, iI_mul, iI_neg]) rfl ?_
          have eT : rsq r0 (rd tp (m + 1) 6 dp) = rsq (rap (rsq (((-1, sk tp r0.2.1 + 1, r0.2.2) : RS)) (rd tp m 0 (dp))) ((-4))) (rd tp m 6 dp) := by
            rw [rsq_p he, show rd tp (m + 1) 6 dp r0.2.1 = rsq (rap (rd tp m 0 dp (sk tp r0.2.1 + 1)) ((-4))) (rd tp m 6 dp) by show rTl tp (rd tp m) dp r0.2.1 = _; unfold rTl; rw [if_pos (by omega), if_neg (by omega)], rsq_1, pre_ap, pre_sq]
          rw [eT]
          refine RQ.im (l6 D u dp (n + 1) _ (rap (rsq (((-1, sk tp r0.2.1 + 1, r0.2.2) : RS)) (rd tp m 0 (dp))) ((-4))) sc2 ar2 tx oc rl ou tl q hdu hdp (by omega) (by omega) hR_2 (fun z => ?_)) (fun v g h => QX.tr hS_2 hT_2 h)
          rw [rsq_1] at z ⊢
          have z2 : sk tp r0.2.1 + 1 + 1 ≤ (rd tp m 0 dp (sk tp r0.2.1 + 1)).2.1 ∧ _ := ((rd_ok (tp := tp) m).at 0 dp (a := sk tp r0.2.1 + 1) (by omega)).2 z
          refine ⟨?_, ?_⟩
          · show 16 * ((tp.length : Int) - (rd tp m 0 dp (sk tp r0.2.1 + 1)).2.1) + 1 ≤ (m : Int); omega
          · show n + 1 + 1 ≤ (rd tp m 0 dp (sk tp r0.2.1 + 1)).2.1; omega
        · skip
          refine RQ.seg 2 (pc' := 71) (L' := [some (.ref 26), some (.int (iI dp)), some (.int (iI n)), some (.int (iI (lk tp r0.2.1)))]) (st' := [.int (iI (-3)), .ref 27]) (g1 := (HW sc1 ar1 tx oc rl ou tl, q)) rfl ?_
          refine RQ.callQ rfl rfl (CQ.up (x_app (d := 0) (r0 := rsq (((-1, sk tp r0.2.1 + 1, r0.2.2) : RS)) (rd tp m 0 (dp))) (x := (-3)) ht hR_1 (by omega) (by rw [rsq_1]; exact pre_sl ((rd_ok (tp := tp) m).at 0 dp (a := sk tp r0.2.1 + 1) (by omega)) (by omega))) (by omega)) (fun rv g1 hc9 => ?_)
          obtain ⟨rfl, sc2, ar2, rfl, hs2, ha2, hR_2⟩ := hc9
          obtain ⟨⟨hs_2, hl_2⟩, hA_2, hZ_2, hW_2, hWr_2, hG_2⟩ := id hR_2
          have hS_2 : Same ruF sc sc2 := Same.tr hS_1 (Same.tr (by repeat (first | exact Same.rf | refine Same.us rfl ?_)) hs2)
          have hT_2 : Same ruA ar ar2 := Same.tr hT_1 (Same.tr (by repeat (first | exact Same.rf | refine Same.us rfl ?_)) ha2)
          refine RQ.seg 2 (pc' := 7) (L' := [some (.ref 26), some (.int (iI dp)), some (.int ((iI n) + (iI 1))), some (.int (iI (lk tp r0.2.1)))]) (st' := []) (g1 := (HW sc2 ar2 tx oc rl ou tl, q)) rfl ?_
          refine RQ.to (L' := [some (.ref 26), some (.int (iI dp)), some (.int (iI (n + 1))), some (.int (iI (lk tp r0.2.1)))]) (st' := []) (by simp only [iI_add, iI_sub, iI_mul, iI_neg]) rfl ?_
          have eT : rsq r0 (rd tp (m + 1) 6 dp) = rsq (rap (rsq (((-1, sk tp r0.2.1 + 1, r0.2.2) : RS)) (rd tp m 0 (dp))) ((-3))) (rd tp m 6 dp) := by
            rw [rsq_p he, show rd tp (m + 1) 6 dp r0.2.1 = rsq (rap (rd tp m 0 dp (sk tp r0.2.1 + 1)) ((-3))) (rd tp m 6 dp) by show rTl tp (rd tp m) dp r0.2.1 = _; unfold rTl; rw [if_pos (by omega), if_pos (by omega)], rsq_1, pre_ap, pre_sq]
          rw [eT]
          refine RQ.im (l6 D u dp (n + 1) _ (rap (rsq (((-1, sk tp r0.2.1 + 1, r0.2.2) : RS)) (rd tp m 0 (dp))) ((-3))) sc2 ar2 tx oc rl ou tl q hdu hdp (by omega) (by omega) hR_2 (fun z => ?_)) (fun v g h => QX.tr hS_2 hT_2 h)
          rw [rsq_1] at z ⊢
          have z2 : sk tp r0.2.1 + 1 + 1 ≤ (rd tp m 0 dp (sk tp r0.2.1 + 1)).2.1 ∧ _ := ((rd_ok (tp := tp) m).at 0 dp (a := sk tp r0.2.1 + 1) (by omega)).2 z
          refine ⟨?_, ?_⟩
          · show 16 * ((tp.length : Int) - (rd tp m 0 dp (sk tp r0.2.1 + 1)).2.1) + 1 ≤ (m : Int); omega
          · show n + 1 + 1 ≤ (rd tp m 0 dp (sk tp r0.2.1 + 1)).2.1; omega
      · skip
        refine RQ.ret rfl rfl ?_
        rw [show rsq r0 (rd tp (m + 1) 6 dp) = (-1, sk tp r0.2.1, r0.2.2) by rw [rsq_p he, show rd tp (m + 1) 6 dp r0.2.1 = (-1, sk tp r0.2.1, []) by show rTl tp (rd tp m) dp r0.2.1 = _; unfold rTl; rw [if_neg (by omega)]]; unfold pre; rw [List.append_nil]]
        exact ⟨rfl, _, _, rfl, (by repeat (first | exact Same.rf | refine Same.us rfl ?_)), (by repeat (first | exact Same.rf | refine Same.us rfl ?_)), RX.mv hR he (by omega)⟩
  · skip
    have ht1 := ht.1
    obtain ⟨⟨hs, hl⟩, hA, hZ, hW, hWr, hG⟩ := id hR
    rw [rsq_b hE]
    rcases Decidable.em (n < 160) with hn9 | hn9
    · skip
      refine RQ.seg 2 (pc' := 11) (L' := [some (.ref 26), some (.int (iI dp)), some (.int (iI n)), e3]) (st' := [.int (iI 160), .int (iI n)]) (g1 := (HW sc ar tx oc rl ou tl, q)) rfl ?_
      refine RQ.if2 (a := n) (b := 160) rfl rfl rfl rfl (by omega) (by omega) (fun (q : 160 ≤ n) => absurd q (show ¬ 160 ≤ n from by omega)) (fun _ => ?_)
      refine RQ.seg 1 (pc' := 15) (L' := [some (.ref 26), some (.int (iI dp)), some (.int (iI n)), e3]) (st' := [.ref 26]) (g1 := (HW sc ar tx oc rl ou tl, q)) rfl ?_
      refine RQ.call rfl rfl (CallR.up (d := 1) (x_fine26f (d := 0) (sc := sc) (ar := ar) (by show -1 ≤ sc 2602 ∧ sc 2602 ≤ 200; omega) (by show ¬ sc 2602 = -1; omega)) (by omega)) ?_
      refine RQ.seg 1 (pc' := 80) (L' := [some (.ref 26), some (.int (iI dp)), some (.int (iI n)), e3]) (st' := []) (g1 := (HW sc ar tx oc rl ou tl, q)) rfl ?_
      refine RQ.ret rfl rfl ?_
      exact ⟨rfl, _, _, rfl, by repeat (first | exact Same.rf | refine Same.us rfl ?_), by repeat (first | exact Same.rf | refine Same.us rfl ?_), RX.bad hR hE rfl rfl (by show 0 ≤ sc 2601 ∧ sc 2601 ≤ _; omega) (by show 0 ≤ sc 2701 ∧ sc 2701 ≤ 161; omega) rfl⟩
    · skip
      refine RQ.seg 2 (pc' := 11) (L' := [some (.ref 26), some (.int (iI dp)), some (.int (iI n)), e3]) (st' := [.int (iI 160), .int (iI n)]) (g1 := (HW sc ar tx oc rl ou tl, q)) rfl ?_
      refine RQ.if2 (a := n) (b := 160) rfl rfl rfl rfl (by omega) (by omega) (fun _ => ?_) (fun (q : ¬ 160 ≤ n) => absurd (show 160 ≤ n from by omega) q)
      refine RQ.ret rfl rfl ?_
      exact ⟨rfl, _, _, rfl, by repeat (first | exact Same.rf | refine Same.us rfl ?_), by repeat (first | exact Same.rf | refine Same.us rfl ?_), RX.bad hR hE rfl rfl (by show 0 ≤ sc 2601 ∧ sc 2601 ≤ _; omega) (by show 0 ≤ sc 2701 ∧ sc 2701 ≤ 161; omega) rfl⟩
theorem xz_7 {K : PK} {tp : List Int} (ht : TpOK tp) (hK3 : K 3 = some (6, zA kc3)) (hK13 : K 13 = some (3, zA kc13)) {m : Nat} : XL7 K tp 0 := by
  intro D u dp n e3 r0 sc ar tx oc rl ou tl q hdu hdp hD hn hR hF
  rcases Decidable.em (r0.1 = -1) with he | hE
  · exfalso
    have z1 : 16 * ((tp.length : Int) - r0.2.1) + 1 ≤ ((0 : Nat) : Int) := (hF he).1
    have z2 := hR.2.1
    have z3 := (hR.2.2.2.2.2 he).1
    omega
  · skip
    have ht1 := ht.1
    obtain ⟨⟨hs, hl⟩, hA, hZ, hW, hWr, hG⟩ := id hR
    rw [rsq_b hE]
    rcases Decidable.em (n < 160) with hn9 | hn9
    · skip
      refine RQ.seg 2 (pc' := 11) (L' := [some (.ref 26), some (.int (iI dp)), some (.int (iI n)), e3]) (st' := [.int (iI 160), .int (iI n)]) (g1 := (HW sc ar tx oc rl ou tl, q)) rfl ?_
      refine RQ.if2 (a := n) (b := 160) rfl rfl rfl rfl (by omega) (by omega) (fun (q : 160 ≤ n) => absurd q (show ¬ 160 ≤ n from by omega)) (fun _ => ?_)
      refine RQ.seg 1 (pc' := 15) (L' := [some (.ref 26), some (.int (iI dp)), some (.int (iI n)), e3]) (st' := [.ref 26]) (g1 := (HW sc ar tx oc rl ou tl, q)) rfl ?_
      refine RQ.call rfl rfl (CallR.up (d := 1) (x_fine26f (d := 0) (sc := sc) (ar := ar) (by show -1 ≤ sc 2602 ∧ sc 2602 ≤ 200; omega) (by show ¬ sc 2602 = -1; omega)) (by omega)) ?_
      refine RQ.seg 1 (pc' := 79) (L' := [some (.ref 26), some (.int (iI dp)), some (.int (iI n)), e3]) (st' := []) (g1 := (HW sc ar tx oc rl ou tl, q)) rfl ?_
      refine RQ.ret rfl rfl ?_
      exact ⟨rfl, _, _, rfl, by repeat (first | exact Same.rf | refine Same.us rfl ?_), by repeat (first | exact Same.rf | refine Same.us rfl ?_), RX.bad hR hE rfl rfl (by show 0 ≤ sc 2601 ∧ sc 2601 ≤ _; omega) (by show 0 ≤ sc 2701 ∧ sc 2701 ≤ 161; omega) rfl⟩
    · skip
      refine RQ.seg 2 (pc' := 11) (L' := [some (.ref 26), some (.int (iI dp)), some (.int (iI n)), e3]) (st' := [.int (iI 160), .int (iI n)]) (g1 := (HW sc ar tx oc rl ou tl, q)) rfl ?_
      refine RQ.if2 (a := n) (b := 160) rfl rfl rfl rfl (by omega) (by omega) (fun _ => ?_) (fun (q : ¬ 160 ≤ n) => absurd (show 160 ≤ n from by omega) q)
      refine RQ.ret rfl rfl ?_
      exact ⟨rfl, _, _, rfl, by repeat (first | exact Same.rf | refine Same.us rfl ?_), by repeat (first | exact Same.rf | refine Same.us rfl ?_), RX.bad hR hE rfl rfl (by show 0 ≤ sc 2601 ∧ sc 2601 ≤ _; omega) (by show 0 ≤ sc 2701 ∧ sc 2701 ≤ 161; omega) rfl⟩
theorem xl_7 {K : PK} {tp : List Int} (ht : TpOK tp) (hK3 : K 3 = some (6, zA kc3)) (hK13 : K 13 = some (3, zA kc13)) {m : Nat} (hP : XP K tp m) : XL7 K tp (m + 1) := by
  obtain ⟨p0, p1, p2, p3, p8, p4, p10, p5, p12, l6, l7, l8, l9, l11⟩ := hP
  intro D u dp n e3 r0 sc ar tx oc rl ou tl q hdu hdp hD hn hR hF
  rcases Decidable.em (r0.1 = -1) with he | hE
  · skip
    have ht1 := ht.1
    obtain ⟨⟨hs, hl⟩, hA, hZ, hW, hWr, hG⟩ := id hR
    obtain ⟨g1, g2, g3, g4⟩ := hG he
    have hw1 : sc 2602 = -1 := hW.trans he
    have hsk := sk_r (tp := tp) (p := r0.2.1) (by omega)
    have hlr := tch_r ht (sk tp r0.2.1)
    have hlk : 0 ≤ lk tp r0.2.1 ∧ lk tp r0.2.1 ≤ 255 := hlr
    have hFu : 16 * ((tp.length : Int) - r0.2.1) + 1 ≤ ((m + 1 : Nat) : Int) := (hF he).1
    have hn1 := (hF he).2
    refine RQ.seg 2 (pc' := 11) (L' := [some (.ref 26), some (.int (iI dp)), some (.int (iI n)), e3]) (st' := [.int (iI 160), .int (iI n)]) (g1 := (HW sc ar tx oc rl ou tl, q)) rfl ?_
    refine RQ.if2 (a := n) (b := 160) rfl rfl rfl rfl (by omega) (by omega) (fun (q : 160 ≤ n) => absurd q (show ¬ 160 ≤ n from by omega)) (fun _ => ?_)
    refine RQ.seg 1 (pc' := 15) (L' := [some (.ref 26), some (.int (iI dp)), some (.int (iI n)), e3]) (st' := [.ref 26]) (g1 := (HW sc ar tx oc rl ou tl, q)) rfl ?_
    refine RQ.call rfl rfl (CallR.up (d := 1) (x_fine26t (d := 0) (sc := sc) (ar := ar) (by show -1 ≤ sc 2602 ∧ sc 2602 ≤ 200; omega) (by show sc 2602 = -1; omega)) (by omega)) ?_
    refine RQ.seg 2 (pc' := 22) (L' := [some (.ref 26), some (.int (iI dp)), some (.int (iI n)), e3]) (st' := [.ref 26]) (g1 := (HW sc ar tx oc rl ou tl, q)) rfl ?_
    refine RQ.call rfl rfl (CallR.up (d := 1) (x_look26 (d := 0) (sc := sc) (ar := ar) (a := r0.2.1) ht hs hl g1 (by omega)) (by omega)) ?_
    refine RQ.seg 3 (pc' := 29) (L' := [some (.ref 26), some (.int (iI dp)), some (.int (iI n)), some (.int (iI (lk tp r0.2.1)))]) (st' := [.int (iI 43), .int (iI (lk tp r0.2.1))]) (g1 := (HW (usc sc 2601 (sk tp r0.2.1)) ar tx oc rl ou tl, q)) rfl ?_
    refine RQ.if2 (a := (lk tp r0.2.1)) (b := 43) rfl rfl rfl rfl (by omega) (by omega) (fun (h2 : lk tp r0.2.1 = 43) => ?_) (fun (h2 : ¬ lk tp r0.2.1 = 43) => ?_)
    · skip
      refine RQ.seg 5 (pc' := 46) (L' := [some (.ref 26), some (.int (iI dp)), some (.int (iI n)), some (.int (iI (lk tp r0.2.1)))]) (st' := [.int ((iI (sk tp r0.2.1)) + (iI 1)), .ref 26]) (g1 := (HW (usc sc 2601 (sk tp r0.2.1)) ar tx oc rl ou tl, q)) rfl ?_
      refine RQ.to (L' := [some (.ref 26), some (.int (iI dp)), some (.int (iI n)), some (.int (iI (lk tp r0.2.1)))]) (st' := [.int (iI (sk tp r0.2.1 + 1)), .ref 26]) rfl (by simp only [iI_add, iI_sub, iI_mul, iI_neg]) ?_
      refine RQ.seg 3 (pc' := 51) (L' := [some (.ref 26), some (.int (iI dp)), some (.int (iI n)), some (.int (iI (lk tp r0.2.1)))]) (st' := [.int (iI dp), .ref 26]) (g1 := (HW (usc sc 2601 (sk tp r0.2.1 + 1)) ar tx oc rl ou tl, q)) rfl ?_
      have hps := lk_in (tp := tp) (a := r0.2.1) (by omega) (by omega)
      refine RQ.callQ rfl rfl (CQ.up (p1 (D - 1) (u) (dp) (((-1, sk tp r0.2.1 + 1, r0.2.2) : RS)) _ _ _ _ _ _ _ _ (by omega) (by omega) (by omega) (RX.mv hR he (by omega)) (fun _ => by show 16 * ((tp.length : Int) - (sk tp r0.2.1 + 1)) + 2 ≤ (m : Int); omega)) (by omega)) (fun rv g1 hc9 => ?_)
      obtain ⟨rfl, sc1, ar1, rfl, hs1, ha1, hR_1⟩ := hc9
      obtain ⟨⟨hs_1, hl_1⟩, hA_1, hZ_1, hW_1, hWr_1, hG_1⟩ := id hR_1
      have hS_1 : Same ruF sc sc1 := Same.tr Same.rf (Same.tr (by repeat (first | exact Same.rf | refine Same.us rfl ?_)) hs1)
      have hT_1 : Same ruA ar ar1 := Same.tr Same.rf (Same.tr (by repeat (first | exact Same.rf | refine Same.us rfl ?_)) ha1)
      refine RQ.seg 4 (pc' := 61) (L' := [some (.ref 26), some (.int (iI dp)), some (.int (iI n)), some (.int (iI (lk tp r0.2.1)))]) (st' := [.int (iI 43), .int (iI (lk tp r0.2.1)), .ref 27]) (g1 := (HW sc1 ar1 tx oc rl ou tl, q)) rfl ?_
      refine RQ.if2 (a := (lk tp r0.2.1)) (b := 43) rfl rfl rfl rfl (by omega) (by omega) (fun (h3 : lk tp r0.2.1 ≠ 43) => ?_) (fun (h3 : ¬ lk tp r0.2.1 ≠ 43) => ?_)
      · skip
        refine RQ.seg 1 (pc' := 70) (L' := [some (.ref 26), some (.int (iI dp)), some (.int (iI n)), some (.int (iI (lk tp r0.2.1)))]) (st' := [.int (iI (-2)), .ref 27]) (g1 := (HW sc1 ar1 tx oc rl ou tl, q)) rfl ?_
        refine RQ.callQ rfl rfl (CQ.up (x_app (d := 0) (r0 := rsq (((-1, sk tp r0.2.1 + 1, r0.2.2) : RS)) (rd tp m 1 (dp))) (x := (-2)) ht hR_1 (by omega) (by rw [rsq_1]; exact pre_sl ((rd_ok (tp := tp) m).at 1 dp (a := sk tp r0.2.1 + 1) (by omega)) (by omega))) (by omega)) (fun rv g1 hc9 => ?_)
        obtain ⟨rfl, sc2, ar2, rfl, hs2, ha2, hR_2⟩ := hc9
        obtain ⟨⟨hs_2, hl_2⟩, hA_2, hZ_2, hW_2, hWr_2, hG_2⟩ := id hR_2
        have hS_2 : Same ruF sc sc2 := Same.tr hS_1 (Same.tr (by repeat (first | exact Same.rf | refine Same.us rfl ?_)) hs2)
        have hT_2 : Same ruA ar ar2 := Same.tr hT_1 (Same.tr (by repeat (first | exact Same.rf | refine Same.us rfl ?_)) ha2)
        refine RQ.seg 2 (pc' := 7) (L' := [some (.ref 26), some (.int (iI dp)), some (.int ((iI n) + (iI 1))), some (.int (iI (lk tp r0.2.1)))]) (st' := []) (g1 := (HW sc2 ar2 tx oc rl ou tl, q)) rfl ?_
        refine RQ.to (L' := [some (.ref 26), some (.int (iI dp)), some (.int (iI (n + 1))), some (.int (iI (lk tp r0.2.1)))]) (st' := []) (by simp only [iI_add, iI_sub, iI_mul, iI_neg]) rfl ?_
        have eT : rsq r0 (rd tp (m + 1) 7 dp) = rsq (rap (rsq (((-1, sk tp r0.2.1 + 1, r0.2.2) : RS)) (rd tp m 1 (dp))) ((-2))) (rd tp m 7 dp) := by
          rw [rsq_p he, show rd tp (m + 1) 7 dp r0.2.1 = rsq (rap (rd tp m 1 dp (sk tp r0.2.1 + 1)) ((-2))) (rd tp m 7 dp) by show rSl tp (rd tp m) dp r0.2.1 = _; unfold rSl; rw [if_pos (by omega), if_neg (by omega)], rsq_1, pre_ap, pre_sq]
        rw [eT]
        refine RQ.im (l7 D u dp (n + 1) _ (rap (rsq (((-1, sk tp r0.2.1 + 1, r0.2.2) : RS)) (rd tp m 1 (dp))) ((-2))) sc2 ar2 tx oc rl ou tl q hdu hdp (by omega) (by omega) hR_2 (fun z => ?_)) (fun v g h => QX.tr hS_2 hT_2 h)
        rw [rsq_1] at z ⊢
        have z2 : sk tp r0.2.1 + 1 + 1 ≤ (rd tp m 1 dp (sk tp r0.2.1 + 1)).2.1 ∧ _ := ((rd_ok (tp := tp) m).at 1 dp (a := sk tp r0.2.1 + 1) (by omega)).2 z
        refine ⟨?_, ?_⟩
        · show 16 * ((tp.length : Int) - (rd tp m 1 dp (sk tp r0.2.1 + 1)).2.1) + 1 ≤ (m : Int); omega
        · show n + 1 + 1 ≤ (rd tp m 1 dp (sk tp r0.2.1 + 1)).2.1; omega
      · skip
        refine RQ.seg 2 (pc' := 70) (L' := [some (.ref 26), some (.int (iI dp)), some (.int (iI n)), some (.int (iI (lk tp r0.2.1)))]) (st' := [.int (iI (-1)), .ref 27]) (g1 := (HW sc1 ar1 tx oc rl ou tl, q)) rfl ?_
        refine RQ.callQ rfl rfl (CQ.up (x_app (d := 0) (r0 := rsq (((-1, sk tp r0.2.1 + 1, r0.2.2) : RS)) (rd tp m 1 (dp))) (x := (-1)) ht hR_1 (by omega) (by rw [rsq_1]; exact pre_sl ((rd_ok (tp := tp) m).at 1 dp (a := sk tp r0.2.1 + 1) (by omega)) (by omega))) (by omega)) (fun rv g1 hc9 => ?_)
        obtain ⟨rfl, sc2, ar2, rfl, hs2, ha2, hR_2⟩ := hc9
        obtain ⟨⟨hs_2, hl_2⟩, hA_2, hZ_2, hW_2, hWr_2, hG_2⟩ := id hR_2
        have hS_2 : Same ruF sc sc2 := Same.tr hS_1 (Same.tr (by repeat (first | exact Same.rf | refine Same.us rfl ?_)) hs2)
        have hT_2 : Same ruA ar ar2 := Same.tr hT_1 (Same.tr (by repeat (first | exact Same.rf | refine Same.us rfl ?_)) ha2)
        refine RQ.seg 2 (pc' := 7) (L' := [some (.ref 26), some (.int (iI dp)), some (.int ((iI n) + (iI 1))), some (.int (iI (lk tp r0.2.1)))]) (st' := []) (g1 := (HW sc2 ar2 tx oc rl ou tl, q)) rfl ?_
        refine RQ.to (L' := [some (.ref 26), some (.int (iI dp)), some (.int (iI (n + 1))), some (.int (iI (lk tp r0.2.1)))]) (st' := []) (by simp only [iI_add, iI_sub, iI_mul, iI_neg]) rfl ?_
        have eT : rsq r0 (rd tp (m + 1) 7 dp) = rsq (rap (rsq (((-1, sk tp r0.2.1 + 1, r0.2.2) : RS)) (rd tp m 1 (dp))) ((-1))) (rd tp m 7 dp) := by
          rw [rsq_p he, show rd tp (m + 1) 7 dp r0.2.1 = rsq (rap (rd tp m 1 dp (sk tp r0.2.1 + 1)) ((-1))) (rd tp m 7 dp) by show rSl tp (rd tp m) dp r0.2.1 = _; unfold rSl; rw [if_pos (by omega), if_pos (by omega)], rsq_1, pre_ap, pre_sq]
        rw [eT]
        refine RQ.im (l7 D u dp (n + 1) _ (rap (rsq (((-1, sk tp r0.2.1 + 1, r0.2.2) : RS)) (rd tp m 1 (dp))) ((-1))) sc2 ar2 tx oc rl ou tl q hdu hdp (by omega) (by omega) hR_2 (fun z => ?_)) (fun v g h => QX.tr hS_2 hT_2 h)
        rw [rsq_1] at z ⊢
        have z2 : sk tp r0.2.1 + 1 + 1 ≤ (rd tp m 1 dp (sk tp r0.2.1 + 1)).2.1 ∧ _ := ((rd_ok (tp := tp) m).at 1 dp (a := sk tp r0.2.1 + 1) (by omega)).2 z
        refine ⟨?_, ?_⟩
        · show 16 * ((tp.length : Int) - (rd tp m 1 dp (sk tp r0.2.1 + 1)).2.1) + 1 ≤ (m : Int); omega
        · show n + 1 + 1 ≤ (rd tp m 1 dp (sk tp r0.2.1 + 1)).2.1; omega
    · skip
      refine RQ.seg 2 (pc' := 35) (L' := [some (.ref 26), some (.int (iI dp)), some (.int (iI n)), some (.int (iI (lk tp r0.2.1)))]) (st' := [.int (iI 45), .int (iI (lk tp r0.2.1))]) (g1 := (HW (usc sc 2601 (sk tp r0.2.1)) ar tx oc rl ou tl, q)) rfl ?_
      refine RQ.if2 (a := (lk tp r0.2.1)) (b := 45) rfl rfl rfl rfl (by omega) (by omega) (fun (h4 : lk tp r0.2.1 = 45) => ?_) (fun (h4 : ¬ lk tp r0.2.1 = 45) => ?_)
      · skip
        refine RQ.seg 5 (pc' := 46) (L' := [some (.ref 26), some (.int (iI dp)), some (.int (iI n)), some (.int (iI (lk tp r0.2.1)))]) (st' := [.int ((iI (sk tp r0.2.1)) + (iI 1)), .ref 26]) (g1 := (HW (usc sc 2601 (sk tp r0.2.1)) ar tx oc rl ou tl, q)) rfl ?_
        refine RQ.to (L' := [some (.ref 26), some (.int (iI dp)), some (.int (iI n)), some (.int (iI (lk tp r0.2.1)))]) (st' := [.int (iI (sk tp r0.2.1 + 1)), .ref 26]) rfl (by simp only [iI_add, iI_sub, iI_mul, iI_neg]) ?_
        refine RQ.seg 3 (pc' := 51) (L' := [some (.ref 26), some (.int (iI dp)), some (.int (iI n)), some (.int (iI (lk tp r0.2.1)))]) (st' := [.int (iI dp), .ref 26]) (g1 := (HW (usc sc 2601 (sk tp r0.2.1 + 1)) ar tx oc rl ou tl, q)) rfl ?_
        have hps := lk_in (tp := tp) (a := r0.2.1) (by omega) (by omega)
        refine RQ.callQ rfl rfl (CQ.up (p1 (D - 1) (u) (dp) (((-1, sk tp r0.2.1 + 1, r0.2.2) : RS)) _ _ _ _ _ _ _ _ (by omega) (by omega) (by omega) (RX.mv hR he (by omega)) (fun _ => by show 16 * ((tp.length : Int) - (sk tp r0.2.1 + 1)) + 2 ≤ (m : Int); omega)) (by omega)) (fun rv g1 hc9 => ?_)
        obtain ⟨rfl, sc1, ar1, rfl, hs1, ha1, hR_1⟩ := hc9
        obtain ⟨⟨hs_1, hl_1⟩, hA_1, hZ_1, hW_1, hWr_1, hG_1⟩ := id hR_1
        have hS_1 : Same ruF sc sc1 := Same.tr Same.rf (Same.tr (by repeat (first | exact Same.rf | refine Same.us rfl ?_)) hs1)
        have hT_1 : Same ruA ar ar1 := Same.tr Same.rf (Same.tr (by repeat (first | exact Same.rf | refine Same.us rfl ?_)) ha1)
        refine RQ.seg 4 (pc' := 61) (L' := [some (.ref 26), some (.int (iI dp)), some (.int (iI n)), some (.int (iI (lk tp r0.2.1)))]) (st' := [.int (iI 43), .int (iI (lk tp r0.2.1)), .ref 27]) (g1 := (HW sc1 ar1 tx oc rl ou tl, q)) rfl ?_
        refine RQ.if2 (a := (lk tp r0.2.1)) (b := 43) rfl rfl rfl rfl (by omega) (by omega) (fun (h5 : lk tp r0.2.1 ≠ 43) => ?_) (fun (h5 : ¬ lk tp r0.2.1 ≠ 43) => ?_)
        · skip
          refine RQ.seg 1 (pc' := 70) (L' := [some (.ref 26), some (.int (iI dp)), some (.int (iI n)), some (.int (iI (lk tp r0.2.1)))]) (st' := [.int (iI (-2)), .ref 27]) (g1 := (HW sc1 ar1 tx oc rl ou tl, q)) rfl ?_
          refine RQ.callQ rfl rfl (CQ.up (x_app (d := 0) (r0 := rsq (((-1, sk tp r0.2.1 + 1, r0.2.2) : RS)) (rd tp m 1 (dp))) (x := (-2)) ht hR_1 (by omega) (by rw [rsq_1]; exact pre_sl ((rd_ok (tp := tp) m).at 1 dp (a := sk tp r0.2.1 + 1) (by omega)) (by omega))) (by omega)) (fun rv g1 hc9 => ?_)
          obtain ⟨rfl, sc2, ar2, rfl, hs2, ha2, hR_2⟩ := hc9
          obtain ⟨⟨hs_2, hl_2⟩, hA_2, hZ_2, hW_2, hWr_2, hG_2⟩ := id hR_2
          have hS_2 : Same ruF sc sc2 := Same.tr hS_1 (Same.tr (by repeat (first | exact Same.rf | refine Same.us rfl ?_)) hs2)
          have hT_2 : Same ruA ar ar2 := Same.tr hT_1 (Same.tr (by repeat (first | exact Same.rf | refine Same.us rfl ?_)) ha2)
          refine RQ.seg 2 (pc' := 7) (L' := [some (.ref 26), some (.int (iI dp)), some (.int ((iI n) + (iI 1))), some (.int (iI (lk tp r0.2.1)))]) (st' := []) (g1 := (HW sc2 ar2 tx oc rl ou tl, q)) rfl ?_
          refine RQ.to (L' := [some (.ref 26), some (.int (iI dp)), some (.int (iI (n + 1))), some (.int (iI (lk tp r0.2.1)))]) (st' := []) (by simp only [iI_add, iI_sub, iI_mul, iI_neg]) rfl ?_
          have eT : rsq r0 (rd tp (m + 1) 7 dp) = rsq (rap (rsq (((-1, sk tp r0.2.1 + 1, r0.2.2) : RS)) (rd tp m 1 (dp))) ((-2))) (rd tp m 7 dp) := by
            rw [rsq_p he, show rd tp (m + 1) 7 dp r0.2.1 = rsq (rap (rd tp m 1 dp (sk tp r0.2.1 + 1)) ((-2))) (rd tp m 7 dp) by show rSl tp (rd tp m) dp r0.2.1 = _; unfold rSl; rw [if_pos (by omega), if_neg (by omega)], rsq_1, pre_ap, pre_sq]
          rw [eT]
          refine RQ.im (l7 D u dp (n + 1) _ (rap (rsq (((-1, sk tp r0.2.1 + 1, r0.2.2) : RS)) (rd tp m 1 (dp))) ((-2))) sc2 ar2 tx oc rl ou tl q hdu hdp (by omega) (by omega) hR_2 (fun z => ?_)) (fun v g h => QX.tr hS_2 hT_2 h)
          rw [rsq_1] at z ⊢
          have z2 : sk tp r0.2.1 + 1 + 1 ≤ (rd tp m 1 dp (sk tp r0.2.1 + 1)).2.1 ∧ _ := ((rd_ok (tp := tp) m).at 1 dp (a := sk tp r0.2.1 + 1) (by omega)).2 z
          refine ⟨?_, ?_⟩
          · show 16 * ((tp.length : Int) - (rd tp m 1 dp (sk tp r0.2.1 + 1)).2.1) + 1 ≤ (m : Int); omega
          · show n + 1 + 1 ≤ (rd tp m 1 dp (sk tp r0.2.1 + 1)).2.1; omega
        · skip
          refine RQ.seg 2 (pc' := 70) (L' := [some (.ref 26), some (.int (iI dp)), some (.int (iI n)), some (.int (iI (lk tp r0.2.1)))]) (st' := [.int (iI (-1)), .ref 27]) (g1 := (HW sc1 ar1 tx oc rl ou tl, q)) rfl ?_
          refine RQ.callQ rfl rfl (CQ.up (x_app (d := 0) (r0 := rsq (((-1, sk tp r0.2.1 + 1, r0.2.2) : RS)) (rd tp m 1 (dp))) (x := (-1)) ht hR_1 (by omega) (by rw [rsq_1]; exact pre_sl ((rd_ok (tp := tp) m).at 1 dp (a := sk tp r0.2.1 + 1) (by omega)) (by omega))) (by omega)) (fun rv g1 hc9 => ?_)
          obtain ⟨rfl, sc2, ar2, rfl, hs2, ha2, hR_2⟩ := hc9
          obtain ⟨⟨hs_2, hl_2⟩, hA_2, hZ_2, hW_2, hWr_2, hG_2⟩ := id hR_2
          have hS_2 : Same ruF sc sc2 := Same.tr hS_1 (Same.tr (by repeat (first | exact Same.rf | refine Same.us rfl ?_)) hs2)
          have hT_2 : Same ruA ar ar2 := Same.tr hT_1 (Same.tr (by repeat (first | exact Same.rf | refine Same.us rfl ?_)) ha2)
          refine RQ.seg 2 (pc' := 7) (L' := [some (.ref 26), some (.int (iI dp)), some (.int ((iI n) + (iI 1))), some (.int (iI (lk tp r0.2.1)))]) (st' := []) (g1 := (HW sc2 ar2 tx oc rl ou tl, q)) rfl ?_
          refine RQ.to (L' := [some (.ref 26), some (.int (iI dp)), some (.int (iI (n + 1))), some (.int (iI (lk tp r0.2.1)))]) (st' := []) (by simp only [iI_add, iI_sub, iI_mul, iI_neg]) rfl ?_
          have eT : rsq r0 (rd tp (m + 1) 7 dp) = rsq (rap (rsq (((-1, sk tp r0.2.1 + 1, r0.2.2) : RS)) (rd tp m 1 (dp))) ((-1))) (rd tp m 7 dp) := by
            rw [rsq_p he, show rd tp (m + 1) 7 dp r0.2.1 = rsq (rap (rd tp m 1 dp (sk tp r0.2.1 + 1)) ((-1))) (rd tp m 7 dp) by show rSl tp (rd tp m) dp r0.2.1 = _; unfold rSl; rw [if_pos (by omega), if_pos (by omega)], rsq_1, pre_ap, pre_sq]
          rw [eT]
          refine RQ.im (l7 D u dp (n + 1) _ (rap (rsq (((-1, sk tp r0.2.1 + 1, r0.2.2) : RS)) (rd tp m 1 (dp))) ((-1))) sc2 ar2 tx oc rl ou tl q hdu hdp (by omega) (by omega) hR_2 (fun z => ?_)) (fun v g h => QX.tr hS_2 hT_2 h)
          rw [rsq_1] at z ⊢
          have z2 : sk tp r0.2.1 + 1 + 1 ≤ (rd tp m 1 dp (sk tp r0.2.1 + 1)).2.1 ∧ _ := ((rd_ok (tp := tp) m).at 1 dp (a := sk tp r0.2.1 + 1) (by omega)).2 z
          refine ⟨?_, ?_⟩
          · show 16 * ((tp.length : Int) - (rd tp m 1 dp (sk tp r0.2.1 + 1)).2.1) + 1 ≤ (m : Int); omega
          · show n + 1 + 1 ≤ (rd tp m 1 dp (sk tp r0.2.1 + 1)).2.1; omega
      · skip
        refine RQ.ret rfl rfl ?_
        rw [show rsq r0 (rd tp (m + 1) 7 dp) = (-1, sk tp r0.2.1, r0.2.2) by rw [rsq_p he, show rd tp (m + 1) 7 dp r0.2.1 = (-1, sk tp r0.2.1, []) by show rSl tp (rd tp m) dp r0.2.1 = _; unfold rSl; rw [if_neg (by omega)]]; unfold pre; rw [List.append_nil]]
        exact ⟨rfl, _, _, rfl, (by repeat (first | exact Same.rf | refine Same.us rfl ?_)), (by repeat (first | exact Same.rf | refine Same.us rfl ?_)), RX.mv hR he (by omega)⟩
  · skip
    have ht1 := ht.1
    obtain ⟨⟨hs, hl⟩, hA, hZ, hW, hWr, hG⟩ := id hR
    rw [rsq_b hE]
    rcases Decidable.em (n < 160) with hn9 | hn9
    · skip
      refine RQ.seg 2 (pc' := 11) (L' := [some (.ref 26), some (.int (iI dp)), some (.int (iI n)), e3]) (st' := [.int (iI 160), .int (iI n)]) (g1 := (HW sc ar tx oc rl ou tl, q)) rfl ?_
      refine RQ.if2 (a := n) (b := 160) rfl rfl rfl rfl (by omega) (by omega) (fun (q : 160 ≤ n) => absurd q (show ¬ 160 ≤ n from by omega)) (fun _ => ?_)
      refine RQ.seg 1 (pc' := 15) (L' := [some (.ref 26), some (.int (iI dp)), some (.int (iI n)), e3]) (st' := [.ref 26]) (g1 := (HW sc ar tx oc rl ou tl, q)) rfl ?_
      refine RQ.call rfl rfl (CallR.up (d := 1) (x_fine26f (d := 0) (sc := sc) (ar := ar) (by show -1 ≤ sc 2602 ∧ sc 2602 ≤ 200; omega) (by show ¬ sc 2602 = -1; omega)) (by omega)) ?_
      refine RQ.seg 1 (pc' := 79) (L' := [some (.ref 26), some (.int (iI dp)), some (.int (iI n)), e3]) (st' := []) (g1 := (HW sc ar tx oc rl ou tl, q)) rfl ?_
      refine RQ.ret rfl rfl ?_
      exact ⟨rfl, _, _, rfl, by repeat (first | exact Same.rf | refine Same.us rfl ?_), by repeat (first | exact Same.rf | refine Same.us rfl ?_), RX.bad hR hE rfl rfl (by show 0 ≤ sc 2601 ∧ sc 2601 ≤ _; omega) (by show 0 ≤ sc 2701 ∧ sc 2701 ≤ 161; omega) rfl⟩
    · skip
      refine RQ.seg 2 (pc' := 11) (L' := [some (.ref 26), some (.int (iI dp)), some (.int (iI n)), e3]) (st' := [.int (iI 160), .int (iI n)]) (g1 := (HW sc ar tx oc rl ou tl, q)) rfl ?_
      refine RQ.if2 (a := n) (b := 160) rfl rfl rfl rfl (by omega) (by omega) (fun _ => ?_) (fun (q : ¬ 160 ≤ n) => absurd (show 160 ≤ n from by omega) q)
      refine RQ.ret rfl rfl ?_
      exact ⟨rfl, _, _, rfl, by repeat (first | exact Same.rf | refine Same.us rfl ?_), by repeat (first | exact Same.rf | refine Same.us rfl ?_), RX.bad hR hE rfl rfl (by show 0 ≤ sc 2601 ∧ sc 2601 ≤ _; omega) (by show 0 ≤ sc 2701 ∧ sc 2701 ≤ 161; omega) rfl⟩
theorem xz_9 {K : PK} {tp : List Int} (ht : TpOK tp) (hK3 : K 3 = some (6, zA kc3)) (hK13 : K 13 = some (3, zA kc13)) {m : Nat} : XL9 K tp 0 := by
  intro D u dp n s2 r0 sc ar tx oc rl ou tl q hdu hdp hD hn hR hF
  rcases Decidable.em (r0.1 = -1) with he | hE
  · exfalso
    have z1 : 16 * ((tp.length : Int) - r0.2.1) + 1 ≤ ((0 : Nat) : Int) := (hF he).1
    have z2 := hR.2.1
    have z3 := (hR.2.2.2.2.2 he).1
    omega
  · skip
    have ht1 := ht.1
    obtain ⟨⟨hs, hl⟩, hA, hZ, hW, hWr, hG⟩ := id hR
    rw [rsq_b hE]
    rcases Decidable.em (n < 160) with hn9 | hn9
    · skip
      refine RQ.seg 2 (pc' := 12) (L' := [some (.ref 26), some (.int (iI dp)), some (.int (iI s2)), some (.int (iI n))]) (st' := [.int (iI 160), .int (iI n)]) (g1 := (HW sc ar tx oc rl ou tl, q)) rfl ?_
      refine RQ.if2 (a := n) (b := 160) rfl rfl rfl rfl (by omega) (by omega) (fun (q : 160 ≤ n) => absurd q (show ¬ 160 ≤ n from by omega)) (fun _ => ?_)
      refine RQ.seg 1 (pc' := 16) (L' := [some (.ref 26), some (.int (iI dp)), some (.int (iI s2)), some (.int (iI n))]) (st' := [.ref 26]) (g1 := (HW sc ar tx oc rl ou tl, q)) rfl ?_
      refine RQ.call rfl rfl (CallR.up (d := 1) (x_fine26f (d := 0) (sc := sc) (ar := ar) (by show -1 ≤ sc 2602 ∧ sc 2602 ≤ 200; omega) (by show ¬ sc 2602 = -1; omega)) (by omega)) ?_
      refine RQ.seg 1 (pc' := 62) (L' := [some (.ref 26), some (.int (iI dp)), some (.int (iI s2)), some (.int (iI n))]) (st' := []) (g1 := (HW sc ar tx oc rl ou tl, q)) rfl ?_
      refine RQ.ret rfl rfl ?_
      exact ⟨rfl, _, _, rfl, by repeat (first | exact Same.rf | refine Same.us rfl ?_), by repeat (first | exact Same.rf | refine Same.us rfl ?_), RX.bad hR hE rfl rfl (by show 0 ≤ sc 2601 ∧ sc 2601 ≤ _; omega) (by show 0 ≤ sc 2701 ∧ sc 2701 ≤ 161; omega) rfl⟩
    · skip
      refine RQ.seg 2 (pc' := 12) (L' := [some (.ref 26), some (.int (iI dp)), some (.int (iI s2)), some (.int (iI n))]) (st' := [.int (iI 160), .int (iI n)]) (g1 := (HW sc ar tx oc rl ou tl, q)) rfl ?_
      refine RQ.if2 (a := n) (b := 160) rfl rfl rfl rfl (by omega) (by omega) (fun _ => ?_) (fun (q : ¬ 160 ≤ n) => absurd (show 160 ≤ n from by omega) q)
      refine RQ.ret rfl rfl ?_
      exact ⟨rfl, _, _, rfl, by repeat (first | exact Same.rf | refine Same.us rfl ?_), by repeat (first | exact Same.rf | refine Same.us rfl ?_), RX.bad hR hE rfl rfl (by show 0 ≤ sc 2601 ∧ sc 2601 ≤ _; omega) (by show 0 ≤ sc 2701 ∧ sc 2701 ≤ 161; omega) rfl⟩
theorem xl_9 {K : PK} {tp : List Int} (ht : TpOK tp) (hK3 : K 3 = some (6, zA kc3)) (hK13 : K 13 = some (3, zA kc13)) {m : Nat} (hP : XP K tp m) : XL9 K tp (m + 1) := by
  obtain ⟨p0, p1, p2, p3, p8, p4, p10, p5, p12, l6, l7, l8, l9, l11⟩ := hP
  intro D u dp n s2 r0 sc ar tx oc rl ou tl q hdu hdp hD hn hR hF
  rcases Decidable.em (r0.1 = -1) with he | hE
  · skip
    have ht1 := ht.1
    obtain ⟨⟨hs, hl⟩, hA, hZ, hW, hWr, hG⟩ := id hR
    obtain ⟨g1, g2, g3, g4⟩ := hG he
    have hw1 : sc 2602 = -1 := hW.trans he
    have hsk := sk_r (tp := tp) (p := r0.2.1) (by omega)
    have hlr := tch_r ht (sk tp r0.2.1)
    have hlk : 0 ≤ lk tp r0.2.1 ∧ lk tp r0.2.1 ≤ 255 := hlr
    have hFu : 16 * ((tp.length : Int) - r0.2.1) + 1 ≤ ((m + 1 : Nat) : Int) := (hF he).1
    have hn1 := (hF he).2
    refine RQ.seg 2 (pc' := 12) (L' := [some (.ref 26), some (.int (iI dp)), some (.int (iI s2)), some (.int (iI n))]) (st' := [.int (iI 160), .int (iI n)]) (g1 := (HW sc ar tx oc rl ou tl, q)) rfl ?_
    refine RQ.if2 (a := n) (b := 160) rfl rfl rfl rfl (by omega) (by omega) (fun (q : 160 ≤ n) => absurd q (show ¬ 160 ≤ n from by omega)) (fun _ => ?_)
    refine RQ.seg 1 (pc' := 16) (L' := [some (.ref 26), some (.int (iI dp)), some (.int (iI s2)), some (.int (iI n))]) (st' := [.ref 26]) (g1 := (HW sc ar tx oc rl ou tl, q)) rfl ?_
    refine RQ.call rfl rfl (CallR.up (d := 1) (x_fine26t (d := 0) (sc := sc) (ar := ar) (by show -1 ≤ sc 2602 ∧ sc 2602 ≤ 200; omega) (by show sc 2602 = -1; omega)) (by omega)) ?_
    refine RQ.seg 2 (pc' := 23) (L' := [some (.ref 26), some (.int (iI dp)), some (.int (iI s2)), some (.int (iI n))]) (st' := [.ref 26]) (g1 := (HW sc ar tx oc rl ou tl, q)) rfl ?_
    refine RQ.call rfl rfl (CallR.up (d := 1) (x_look26 (d := 0) (sc := sc) (ar := ar) (a := r0.2.1) ht hs hl g1 (by omega)) (by omega)) ?_
    refine RQ.seg 1 (pc' := 28) (L' := [some (.ref 26), some (.int (iI dp)), some (.int (iI s2)), some (.int (iI n))]) (st' := [.int (iI 38), .int (iI (lk tp r0.2.1))]) (g1 := (HW (usc sc 2601 (sk tp r0.2.1)) ar tx oc rl ou tl, q)) rfl ?_
    refine RQ.if2 (a := (lk tp r0.2.1)) (b := 38) rfl rfl rfl rfl (by omega) (by omega) (fun (h2 : lk tp r0.2.1 ≠ 38) => ?_) (fun (h2 : ¬ lk tp r0.2.1 ≠ 38) => ?_)
    · skip
      refine RQ.ret rfl rfl ?_
      rw [show rsq r0 (rd tp (m + 1) 9 dp) = (-1, sk tp r0.2.1, r0.2.2) by rw [rsq_p he, show rd tp (m + 1) 9 dp r0.2.1 = (-1, sk tp r0.2.1, []) by show rAl tp (rd tp m) dp r0.2.1 = _; unfold rAl; rw [if_neg (by omega)]]; unfold pre; rw [List.append_nil]]
      exact ⟨rfl, _, _, rfl, (by repeat (first | exact Same.rf | refine Same.us rfl ?_)), (by repeat (first | exact Same.rf | refine Same.us rfl ?_)), RX.mv hR he (by omega)⟩
    · skip
      refine RQ.seg 5 (pc' := 38) (L' := [some (.ref 26), some (.int (iI dp)), some (.int (iI s2)), some (.int (iI n))]) (st' := [.int ((iI (sk tp r0.2.1)) + (iI 1)), .ref 26]) (g1 := (HW (usc sc 2601 (sk tp r0.2.1)) ar tx oc rl ou tl, q)) rfl ?_
      refine RQ.to (L' := [some (.ref 26), some (.int (iI dp)), some (.int (iI s2)), some (.int (iI n))]) (st' := [.int (iI (sk tp r0.2.1 + 1)), .ref 26]) rfl (by simp only [iI_add, iI_sub, iI_mul, iI_neg]) ?_
      refine RQ.seg 4 (pc' := 44) (L' := [some (.ref 26), some (.int (iI dp)), some (.int (iI s2)), some (.int (iI n))]) (st' := [.int (iI 0), .int (iI dp), .ref 26]) (g1 := (HW (usc sc 2601 (sk tp r0.2.1 + 1)) ar tx oc rl ou tl, q)) rfl ?_
      have hps := lk_in (tp := tp) (a := r0.2.1) (by omega) (by omega)
      refine RQ.callQ rfl rfl (CQ.up (p3 (D - 1) (u) (dp) (((-1, sk tp r0.2.1 + 1, r0.2.2) : RS)) _ _ _ _ _ _ _ _ (by omega) (by omega) (by omega) (RX.mv hR he (by omega)) (fun _ => by show 16 * ((tp.length : Int) - (sk tp r0.2.1 + 1)) + 4 ≤ (m : Int); omega)) (by omega)) (fun rv g1 hc9 => ?_)
      obtain ⟨rfl, sc1, ar1, rfl, hs1, ha1, hR_1⟩ := hc9
      obtain ⟨⟨hs_1, hl_1⟩, hA_1, hZ_1, hW_1, hWr_1, hG_1⟩ := id hR_1
      have hS_1 : Same ruF sc sc1 := Same.tr Same.rf (Same.tr (by repeat (first | exact Same.rf | refine Same.us rfl ?_)) hs1)
      have hT_1 : Same ruA ar ar1 := Same.tr Same.rf (Same.tr (by repeat (first | exact Same.rf | refine Same.us rfl ?_)) ha1)
      refine RQ.seg 3 (pc' := 53) (L' := [some (.ref 26), some (.int (iI dp)), some (.int (iI s2)), some (.int (iI n))]) (st' := [.int (iI (-9)), .ref 27]) (g1 := (HW sc1 ar1 tx oc rl ou tl, q)) rfl ?_
      refine RQ.callQ rfl rfl (CQ.up (x_app (d := 0) (r0 := rsq (((-1, sk tp r0.2.1 + 1, r0.2.2) : RS)) (rd tp m 3 (dp))) (x := (-9)) ht hR_1 (by omega) (by rw [rsq_1]; exact pre_sl ((rd_ok (tp := tp) m).at 3 dp (a := sk tp r0.2.1 + 1) (by omega)) (by omega))) (by omega)) (fun rv g1 hc9 => ?_)
      obtain ⟨rfl, sc2, ar2, rfl, hs2, ha2, hR_2⟩ := hc9
      obtain ⟨⟨hs_2, hl_2⟩, hA_2, hZ_2, hW_2, hWr_2, hG_2⟩ := id hR_2
      have hS_2 : Same ruF sc sc2 := Same.tr hS_1 (Same.tr (by repeat (first | exact Same.rf | refine Same.us rfl ?_)) hs2)
      have hT_2 : Same ruA ar ar2 := Same.tr hT_1 (Same.tr (by repeat (first | exact Same.rf | refine Same.us rfl ?_)) ha2)
      refine RQ.seg 2 (pc' := 8) (L' := [some (.ref 26), some (.int (iI dp)), some (.int (iI s2)), some (.int ((iI n) + (iI 1)))]) (st' := []) (g1 := (HW sc2 ar2 tx oc rl ou tl, q)) rfl ?_
      refine RQ.to (L' := [some (.ref 26), some (.int (iI dp)), some (.int (iI s2)), some (.int (iI (n + 1)))]) (st' := []) (by simp only [iI_add, iI_sub, iI_mul, iI_neg]) rfl ?_
      have eT : rsq r0 (rd tp (m + 1) 9 dp) = rsq (rap (rsq (((-1, sk tp r0.2.1 + 1, r0.2.2) : RS)) (rd tp m 3 (dp))) ((-9))) (rd tp m 9 dp) := by
        rw [rsq_p he, show rd tp (m + 1) 9 dp r0.2.1 = rsq (rap (rd tp m 3 dp (sk tp r0.2.1 + 1)) ((-9))) (rd tp m 9 dp) by show rAl tp (rd tp m) dp r0.2.1 = _; unfold rAl; rw [if_pos (by omega)], rsq_1, pre_ap, pre_sq]
      rw [eT]
      refine RQ.im (l9 D u dp (n + 1) _ (rap (rsq (((-1, sk tp r0.2.1 + 1, r0.2.2) : RS)) (rd tp m 3 (dp))) ((-9))) sc2 ar2 tx oc rl ou tl q hdu hdp (by omega) (by omega) hR_2 (fun z => ?_)) (fun v g h => QX.tr hS_2 hT_2 h)
      rw [rsq_1] at z ⊢
      have z2 : sk tp r0.2.1 + 1 + 1 ≤ (rd tp m 3 dp (sk tp r0.2.1 + 1)).2.1 ∧ _ := ((rd_ok (tp := tp) m).at 3 dp (a := sk tp r0.2.1 + 1) (by omega)).2 z
      refine ⟨?_, ?_⟩
      · show 16 * ((tp.length : Int) - (rd tp m 3 dp (sk tp r0.2.1 + 1)).2.1) + 1 ≤ (m : Int); omega
      · show n + 1 + 1 ≤ (rd tp m 3 dp (sk tp r0.2.1 + 1)).2.1; omega
  · skip
    have ht1 := ht.1
    obtain ⟨⟨hs, hl⟩, hA, hZ, hW, hWr, hG⟩ := id hR
    rw [rsq_b hE]
    rcases Decidable.em (n < 160) with hn9 | hn9
    · skip
      refine RQ.seg 2 (pc' := 12) (L' := [some (.ref 26), some (.int (iI dp)), some (.int (iI s2)), some (.int (iI n))]) (st' := [.int (iI 160), .int (iI n)]) (g1 := (HW sc ar tx oc rl ou tl, q)) rfl ?_
      refine RQ.if2 (a := n) (b := 160) rfl rfl rfl rfl (by omega) (by omega) (fun (q : 160 ≤ n) => absurd q (show ¬ 160 ≤ n from by omega)) (fun _ => ?_)
      refine RQ.seg 1 (pc' := 16) (L' := [some (.ref 26), some (.int (iI dp)), some (.int (iI s2)), some (.int (iI n))]) (st' := [.ref 26]) (g1 := (HW sc ar tx oc rl ou tl, q)) rfl ?_
      refine RQ.call rfl rfl (CallR.up (d := 1) (x_fine26f (d := 0) (sc := sc) (ar := ar) (by show -1 ≤ sc 2602 ∧ sc 2602 ≤ 200; omega) (by show ¬ sc 2602 = -1; omega)) (by omega)) ?_
      refine RQ.seg 1 (pc' := 62) (L' := [some (.ref 26), some (.int (iI dp)), some (.int (iI s2)), some (.int (iI n))]) (st' := []) (g1 := (HW sc ar tx oc rl ou tl, q)) rfl ?_
      refine RQ.ret rfl rfl ?_
      exact ⟨rfl, _, _, rfl, by repeat (first | exact Same.rf | refine Same.us rfl ?_), by repeat (first | exact Same.rf | refine Same.us rfl ?_), RX.bad hR hE rfl rfl (by show 0 ≤ sc 2601 ∧ sc 2601 ≤ _; omega) (by show 0 ≤ sc 2701 ∧ sc 2701 ≤ 161; omega) rfl⟩
    · skip
      refine RQ.seg 2 (pc' := 12) (L' := [some (.ref 26), some (.int (iI dp)), some (.int (iI s2)), some (.int (iI n))]) (st' := [.int (iI 160), .int (iI n)]) (g1 := (HW sc ar tx oc rl ou tl, q)) rfl ?_
      refine RQ.if2 (a := n) (b := 160) rfl rfl rfl rfl (by omega) (by omega) (fun _ => ?_) (fun (q : ¬ 160 ≤ n) => absurd (show 160 ≤ n from by omega) q)
      refine RQ.ret rfl rfl ?_
      exact ⟨rfl, _, _, rfl, by repeat (first | exact Same.rf | refine Same.us rfl ?_), by repeat (first | exact Same.rf | refine Same.us rfl ?_), RX.bad hR hE rfl rfl (by show 0 ≤ sc 2601 ∧ sc 2601 ≤ _; omega) (by show 0 ≤ sc 2701 ∧ sc 2701 ≤ 161; omega) rfl⟩
theorem xz_11 {K : PK} {tp : List Int} (ht : TpOK tp) (hK3 : K 3 = some (6, zA kc3)) (hK13 : K 13 = some (3, zA kc13)) {m : Nat} : XL11 K tp 0 := by
  intro D u dp n s2 r0 sc ar tx oc rl ou tl q hdu hdp hD hn hR hF
  rcases Decidable.em (r0.1 = -1) with he | hE
  · exfalso
    have z1 : 16 * ((tp.length : Int) - r0.2.1) + 1 ≤ ((0 : Nat) : Int) := (hF he).1
    have z2 := hR.2.1
    have z3 := (hR.2.2.2.2.2 he).1
    omega
  · skip
    have ht1 := ht.1
    obtain ⟨⟨hs, hl⟩, hA, hZ, hW, hWr, hG⟩ := id hR
    rw [rsq_b hE]
    rcases Decidable.em (n < 160) with hn9 | hn9
    · skip
      refine RQ.seg 2 (pc' := 12) (L' := [some (.ref 26), some (.int (iI dp)), some (.int (iI s2)), some (.int (iI n))]) (st' := [.int (iI 160), .int (iI n)]) (g1 := (HW sc ar tx oc rl ou tl, q)) rfl ?_
      refine RQ.if2 (a := n) (b := 160) rfl rfl rfl rfl (by omega) (by omega) (fun (q : 160 ≤ n) => absurd q (show ¬ 160 ≤ n from by omega)) (fun _ => ?_)
      refine RQ.seg 1 (pc' := 16) (L' := [some (.ref 26), some (.int (iI dp)), some (.int (iI s2)), some (.int (iI n))]) (st' := [.ref 26]) (g1 := (HW sc ar tx oc rl ou tl, q)) rfl ?_
      refine RQ.call rfl rfl (CallR.up (d := 1) (x_fine26f (d := 0) (sc := sc) (ar := ar) (by show -1 ≤ sc 2602 ∧ sc 2602 ≤ 200; omega) (by show ¬ sc 2602 = -1; omega)) (by omega)) ?_
      refine RQ.seg 1 (pc' := 62) (L' := [some (.ref 26), some (.int (iI dp)), some (.int (iI s2)), some (.int (iI n))]) (st' := []) (g1 := (HW sc ar tx oc rl ou tl, q)) rfl ?_
      refine RQ.ret rfl rfl ?_
      exact ⟨rfl, _, _, rfl, by repeat (first | exact Same.rf | refine Same.us rfl ?_), by repeat (first | exact Same.rf | refine Same.us rfl ?_), RX.bad hR hE rfl rfl (by show 0 ≤ sc 2601 ∧ sc 2601 ≤ _; omega) (by show 0 ≤ sc 2701 ∧ sc 2701 ≤ 161; omega) rfl⟩
    · skip
      refine RQ.seg 2 (pc' := 12) (L' := [some (.ref 26), some (.int (iI dp)), some (.int (iI s2)), some (.int (iI n))]) (st' := [.int (iI 160), .int (iI n)]) (g1 := (HW sc ar tx oc rl ou tl, q)) rfl ?_
      refine RQ.if2 (a := n) (b := 160) rfl rfl rfl rfl (by omega) (by omega) (fun _ => ?_) (fun (q : ¬ 160 ≤ n) => absurd (show 160 ≤ n from by omega) q)
      refine RQ.ret rfl rfl ?_
      exact ⟨rfl, _, _, rfl, by repeat (first | exact Same.rf | refine Same.us rfl ?_), by repeat (first | exact Same.rf | refine Same.us rfl ?_), RX.bad hR hE rfl rfl (by show 0 ≤ sc 2601 ∧ sc 2601 ≤ _; omega) (by show 0 ≤ sc 2701 ∧ sc 2701 ≤ 161; omega) rfl⟩
theorem xl_11 {K : PK} {tp : List Int} (ht : TpOK tp) (hK3 : K 3 = some (6, zA kc3)) (hK13 : K 13 = some (3, zA kc13)) {m : Nat} (hP : XP K tp m) : XL11 K tp (m + 1) := by
  obtain ⟨p0, p1, p2, p3, p8, p4, p10, p5, p12, l6, l7, l8, l9, l11⟩ := hP
  intro D u dp n s2 r0 sc ar tx oc rl ou tl q hdu hdp hD hn hR hF
  rcases Decidable.em (r0.1 = -1) with he | hE
  · skip
    have ht1 := ht.1
    obtain ⟨⟨hs, hl⟩, hA, hZ, hW, hWr, hG⟩ := id hR
    obtain ⟨g1, g2, g3, g4⟩ := hG he
    have hw1 : sc 2602 = -1 := hW.trans he
    have hsk := sk_r (tp := tp) (p := r0.2.1) (by omega)
    have hlr := tch_r ht (sk tp r0.2.1)
    have hlk : 0 ≤ lk tp r0.2.1 ∧ lk tp r0.2.1 ≤ 255 := hlr
    have hFu : 16 * ((tp.length : Int) - r0.2.1) + 1 ≤ ((m + 1 : Nat) : Int) := (hF he).1
    have hn1 := (hF he).2
    refine RQ.seg 2 (pc' := 12) (L' := [some (.ref 26), some (.int (iI dp)), some (.int (iI s2)), some (.int (iI n))]) (st' := [.int (iI 160), .int (iI n)]) (g1 := (HW sc ar tx oc rl ou tl, q)) rfl ?_
    refine RQ.if2 (a := n) (b := 160) rfl rfl rfl rfl (by omega) (by omega) (fun (q : 160 ≤ n) => absurd q (show ¬ 160 ≤ n from by omega)) (fun _ => ?_)
    refine RQ.seg 1 (pc' := 16) (L' := [some (.ref 26), some (.int (iI dp)), some (.int (iI s2)), some (.int (iI n))]) (st' := [.ref 26]) (g1 := (HW sc ar tx oc rl ou tl, q)) rfl ?_
    refine RQ.call rfl rfl (CallR.up (d := 1) (x_fine26t (d := 0) (sc := sc) (ar := ar) (by show -1 ≤ sc 2602 ∧ sc 2602 ≤ 200; omega) (by show sc 2602 = -1; omega)) (by omega)) ?_
    refine RQ.seg 2 (pc' := 23) (L' := [some (.ref 26), some (.int (iI dp)), some (.int (iI s2)), some (.int (iI n))]) (st' := [.ref 26]) (g1 := (HW sc ar tx oc rl ou tl, q)) rfl ?_
    refine RQ.call rfl rfl (CallR.up (d := 1) (x_look26 (d := 0) (sc := sc) (ar := ar) (a := r0.2.1) ht hs hl g1 (by omega)) (by omega)) ?_
    refine RQ.seg 1 (pc' := 28) (L' := [some (.ref 26), some (.int (iI dp)), some (.int (iI s2)), some (.int (iI n))]) (st' := [.int (iI 124), .int (iI (lk tp r0.2.1))]) (g1 := (HW (usc sc 2601 (sk tp r0.2.1)) ar tx oc rl ou tl, q)) rfl ?_
    refine RQ.if2 (a := (lk tp r0.2.1)) (b := 124) rfl rfl rfl rfl (by omega) (by omega) (fun (h2 : lk tp r0.2.1 ≠ 124) => ?_) (fun (h2 : ¬ lk tp r0.2.1 ≠ 124) => ?_)
    · skip
      refine RQ.ret rfl rfl ?_
      rw [show rsq r0 (rd tp (m + 1) 11 dp) = (-1, sk tp r0.2.1, r0.2.2) by rw [rsq_p he, show rd tp (m + 1) 11 dp r0.2.1 = (-1, sk tp r0.2.1, []) by show rOl tp (rd tp m) dp r0.2.1 = _; unfold rOl; rw [if_neg (by omega)]]; unfold pre; rw [List.append_nil]]
      exact ⟨rfl, _, _, rfl, (by repeat (first | exact Same.rf | refine Same.us rfl ?_)), (by repeat (first | exact Same.rf | refine Same.us rfl ?_)), RX.mv hR he (by omega)⟩
    · skip
      refine RQ.seg 5 (pc' := 38) (L' := [some (.ref 26), some (.int (iI dp)), some (.int (iI s2)), some (.int (iI n))]) (st' := [.int ((iI (sk tp r0.2.1)) + (iI 1)), .ref 26]) (g1 := (HW (usc sc 2601 (sk tp r0.2.1)) ar tx oc rl ou tl, q)) rfl ?_
      refine RQ.to (L' := [some (.ref 26), some (.int (iI dp)), some (.int (iI s2)), some (.int (iI n))]) (st' := [.int (iI (sk tp r0.2.1 + 1)), .ref 26]) rfl (by simp only [iI_add, iI_sub, iI_mul, iI_neg]) ?_
      refine RQ.seg 4 (pc' := 44) (L' := [some (.ref 26), some (.int (iI dp)), some (.int (iI s2)), some (.int (iI n))]) (st' := [.int (iI 0), .int (iI dp), .ref 26]) (g1 := (HW (usc sc 2601 (sk tp r0.2.1 + 1)) ar tx oc rl ou tl, q)) rfl ?_
      have hps := lk_in (tp := tp) (a := r0.2.1) (by omega) (by omega)
      refine RQ.callQ rfl rfl (CQ.up (p4 (D - 1) (u) (dp) (((-1, sk tp r0.2.1 + 1, r0.2.2) : RS)) _ _ _ _ _ _ _ _ (by omega) (by omega) (by omega) (RX.mv hR he (by omega)) (fun _ => by show 16 * ((tp.length : Int) - (sk tp r0.2.1 + 1)) + 5 ≤ (m : Int); omega)) (by omega)) (fun rv g1 hc9 => ?_)
      obtain ⟨rfl, sc1, ar1, rfl, hs1, ha1, hR_1⟩ := hc9
      obtain ⟨⟨hs_1, hl_1⟩, hA_1, hZ_1, hW_1, hWr_1, hG_1⟩ := id hR_1
      have hS_1 : Same ruF sc sc1 := Same.tr Same.rf (Same.tr (by repeat (first | exact Same.rf | refine Same.us rfl ?_)) hs1)
      have hT_1 : Same ruA ar ar1 := Same.tr Same.rf (Same.tr (by repeat (first | exact Same.rf | refine Same.us rfl ?_)) ha1)
      refine RQ.seg 3 (pc' := 53) (L' := [some (.ref 26), some (.int (iI dp)), some (.int (iI s2)), some (.int (iI n))]) (st' := [.int (iI (-10)), .ref 27]) (g1 := (HW sc1 ar1 tx oc rl ou tl, q)) rfl ?_
      refine RQ.callQ rfl rfl (CQ.up (x_app (d := 0) (r0 := rsq (((-1, sk tp r0.2.1 + 1, r0.2.2) : RS)) (rd tp m 4 (dp))) (x := (-10)) ht hR_1 (by omega) (by rw [rsq_1]; exact pre_sl ((rd_ok (tp := tp) m).at 4 dp (a := sk tp r0.2.1 + 1) (by omega)) (by omega))) (by omega)) (fun rv g1 hc9 => ?_)
      obtain ⟨rfl, sc2, ar2, rfl, hs2, ha2, hR_2⟩ := hc9
      obtain ⟨⟨hs_2, hl_2⟩, hA_2, hZ_2, hW_2, hWr_2, hG_2⟩ := id hR_2
      have hS_2 : Same ruF sc sc2 := Same.tr hS_1 (Same.tr (by repeat (first | exact Same.rf | refine Same.us rfl ?_)) hs2)
      have hT_2 : Same ruA ar ar2 := Same.tr hT_1 (Same.tr (by repeat (first | exact Same.rf | refine Same.us rfl ?_)) ha2)
      refine RQ.seg 2 (pc' := 8) (L' := [some (.ref 26), some (.int (iI dp)), some (.int (iI s2)), some (.int ((iI n) + (iI 1)))]) (st' := []) (g1 := (HW sc2 ar2 tx oc rl ou tl, q)) rfl ?_
      refine RQ.to (L' := [some (.ref 26), some (.int (iI dp)), some (.int (iI s2)), some (.int (iI (n + 1)))]) (st' := []) (by simp only [iI_add, iI_sub, iI_mul, iI_neg]) rfl ?_
      have eT : rsq r0 (rd tp (m + 1) 11 dp) = rsq (rap (rsq (((-1, sk tp r0.2.1 + 1, r0.2.2) : RS)) (rd tp m 4 (dp))) ((-10))) (rd tp m 11 dp) := by
        rw [rsq_p he, show rd tp (m + 1) 11 dp r0.2.1 = rsq (rap (rd tp m 4 dp (sk tp r0.2.1 + 1)) ((-10))) (rd tp m 11 dp) by show rOl tp (rd tp m) dp r0.2.1 = _; unfold rOl; rw [if_pos (by omega)], rsq_1, pre_ap, pre_sq]
      rw [eT]
      refine RQ.im (l11 D u dp (n + 1) _ (rap (rsq (((-1, sk tp r0.2.1 + 1, r0.2.2) : RS)) (rd tp m 4 (dp))) ((-10))) sc2 ar2 tx oc rl ou tl q hdu hdp (by omega) (by omega) hR_2 (fun z => ?_)) (fun v g h => QX.tr hS_2 hT_2 h)
      rw [rsq_1] at z ⊢
      have z2 : sk tp r0.2.1 + 1 + 1 ≤ (rd tp m 4 dp (sk tp r0.2.1 + 1)).2.1 ∧ _ := ((rd_ok (tp := tp) m).at 4 dp (a := sk tp r0.2.1 + 1) (by omega)).2 z
      refine ⟨?_, ?_⟩
      · show 16 * ((tp.length : Int) - (rd tp m 4 dp (sk tp r0.2.1 + 1)).2.1) + 1 ≤ (m : Int); omega
      · show n + 1 + 1 ≤ (rd tp m 4 dp (sk tp r0.2.1 + 1)).2.1; omega
  · skip
    have ht1 := ht.1
    obtain ⟨⟨hs, hl⟩, hA, hZ, hW, hWr, hG⟩ := id hR
    rw [rsq_b hE]
    rcases Decidable.em (n < 160) with hn9 | hn9
    · skip
      refine RQ.seg 2 (pc' := 12) (L' := [some (.ref 26), some (.int (iI dp)), some (.int (iI s2)), some (.int (iI n))]) (st' := [.int (iI 160), .int (iI n)]) (g1 := (HW sc ar tx oc rl ou tl, q)) rfl ?_
      refine RQ.if2 (a := n) (b := 160) rfl rfl rfl rfl (by omega) (by omega) (fun (q : 160 ≤ n) => absurd q (show ¬ 160 ≤ n from by omega)) (fun _ => ?_)
      refine RQ.seg 1 (pc' := 16) (L' := [some (.ref 26), some (.int (iI dp)), some (.int (iI s2)), some (.int (iI n))]) (st' := [.ref 26]) (g1 := (HW sc ar tx oc rl ou tl, q)) rfl ?_
      refine RQ.call rfl rfl (CallR.up (d := 1) (x_fine26f (d := 0) (sc := sc) (ar := ar) (by show -1 ≤ sc 2602 ∧ sc 2602 ≤ 200; omega) (by show ¬ sc 2602 = -1; omega)) (by omega)) ?_
      refine RQ.seg 1 (pc' := 62) (L' := [some (.ref 26), some (.int (iI dp)), some (.int (iI s2)), some (.int (iI n))]) (st' := []) (g1 := (HW sc ar tx oc rl ou tl, q)) rfl ?_
      refine RQ.ret rfl rfl ?_
      exact ⟨rfl, _, _, rfl, by repeat (first | exact Same.rf | refine Same.us rfl ?_), by repeat (first | exact Same.rf | refine Same.us rfl ?_), RX.bad hR hE rfl rfl (by show 0 ≤ sc 2601 ∧ sc 2601 ≤ _; omega) (by show 0 ≤ sc 2701 ∧ sc 2701 ≤ 161; omega) rfl⟩
    · skip
      refine RQ.seg 2 (pc' := 12) (L' := [some (.ref 26), some (.int (iI dp)), some (.int (iI s2)), some (.int (iI n))]) (st' := [.int (iI 160), .int (iI n)]) (g1 := (HW sc ar tx oc rl ou tl, q)) rfl ?_
      refine RQ.if2 (a := n) (b := 160) rfl rfl rfl rfl (by omega) (by omega) (fun _ => ?_) (fun (q : ¬ 160 ≤ n) => absurd (show 160 ≤ n from by omega) q)
      refine RQ.ret rfl rfl ?_
      exact ⟨rfl, _, _, rfl, by repeat (first | exact Same.rf | refine Same.us rfl ?_), by repeat (first | exact Same.rf | refine Same.us rfl ?_), RX.bad hR hE rfl rfl (by show 0 ≤ sc 2601 ∧ sc 2601 ≤ _; omega) (by show 0 ≤ sc 2701 ∧ sc 2701 ≤ 161; omega) rfl⟩
