/-! rests of the class, by wip/tools -/
/-! rests of the class: found, and what is asked of them -/
def RQn (nb : Int) (n n' : Nat) (q q' : Nat × Nat) : Prop := (n' = n ∧ q' = q) ∨ (n < nd nb ∧ n' = nd nb ∧ q' = (q.1 + 1, q.2 + nd nb))
def RwS (nw nb : Int) (W B : Int → Int → Int) (r e : Int → Int) (n oc : Nat) (tl : List PO) (sc : Nat → Int) (ar : Nat → Int → Int) : Prop := (sc 6306 = 1 ∧ ∃ j f, oc = j + 118 ∧ j < tl.length ∧ tl = otl tl j n f ∧ RwK nw nb W B r e n f sc ar) ∨ (sc 6306 = 0 ∧ n ≤ 15625 ∧ OcS oc tl n)
/-- the state behind a call that finds the rows -/
def RwP (nw nb : Int) (W B : Int → Int → Int) (oc n : Nat) (tl : List PO) (q : Nat × Nat) (tx : Nat) (rl : Nat → Option Nat) (ou : Nat → Int64) (g' : PG) (P : (Nat → Int) → (Nat → Int → Int) → (Int → Int) → (Int → Int) → Prop) : Prop := ∃ sc' ar' j n' f tl' q' r' e', g' = (HW sc' ar' tx (j + 118) rl ou (otl tl' j n' f), q') ∧ j < tl'.length ∧ RwK nw nb W B r' e' n' f sc' ar' ∧ TlX oc tl j tl' ∧ RQn nb n n' q q' ∧ P sc' ar' r' e'
theorem CQ.mono {K : PK} {d k : Nat} {as : List Value} {g : PG} {Q Q' : Option Value → PG → Prop} (h : CQ K d k as g Q) (hq : ∀ r g', Q r g' → Q' r g') : CQ K d k as g Q' := by
  obtain ⟨r, g', h1, h2⟩ := h
  exact ⟨r, g', h1, hq r g' h2⟩
theorem x_findAll {K : PK} {d : Nat} {sc : Nat → Int} {ar : Nat → Int → Int} {tx oc : Nat} {rl : Nat → Option Nat} {ou : Nat → Int64} {tl : List PO} {q : Nat × Nat} {nw nb : Int} {W B : Int → Int → Int} (hF : FrOK nw nb W B) (hX : FrX (sc 303) (sc 304) (ar 5) (ar 6) (ar 7) (ar 8) (ar 10) (ar 11) (ar 12) nw nb W B) (hnb : 0 < nb) {r e : Int → Int} {n : Nat} (hS : RwS nw nb W B r e n oc tl sc ar) : CQ K (d + 4) 71 [.ref 63] (HW sc ar tx oc rl ou tl, q) (fun rv g' => rv = none ∧ RwP nw nb W B oc n tl q tx rl ou g' (fun sc' ar' r' e' => Same rnF sc sc' ∧ Same rnA ar ar' ∧ (sc 6306 = 1 → r' = r ∧ e' = e))) := by
  rcases hS with ⟨h1, j, f, rfl, hj, e0, hR⟩ | ⟨h0, hn, ho⟩
  · have h := (x_findAll_k (K := K) (d := 0) (tx := tx) (rl := rl) (ou := ou) (q := q) hF hX hj hR).up (d' := d + 4) (by omega)
    rw [← e0] at h
    exact ⟨_, _, h, rfl, sc, ar, j, n, f, tl, q, r, e, congrArg (fun t => (HW sc ar tx (j + 118) rl ou t, q)) e0, hj, hR, ⟨Nat.le_refl _, fun _ _ _ => rfl, Or.inl rfl⟩, Or.inl ⟨rfl, rfl⟩, Same.rf, Same.rf, fun _ => ⟨rfl, rfl⟩⟩
  · refine (x_findAll_n (d := d) hF hX hnb h0 hn ho).mono (fun rv g' h => ?_)
    obtain ⟨rfl, sc', ar', j, n', f, tl', q', rfl, hj, hR, hs, ha, ht, hq⟩ := h
    refine ⟨rfl, sc', ar', j, n', f, tl', q', _, _, rfl, hj, hR, ht, ?_, hs, ha, fun z => absurd (h0.symm.trans z) (by decide)⟩
    rcases hq with ⟨_, h2, h3⟩ | h2
    · exact Or.inl ⟨h2, h3⟩
    · exact Or.inr h2
theorem RwK.fl {nw nb : Int} {W B : Int → Int → Int} {r e : Int → Int} {n : Nat} {f : Int → Int} {sc sc' : Nat → Int} {ar : Nat → Int → Int} (h1 : sc' 6306 = sc 6306) (h2 : sc' 6308 = sc 6308) (h3 : sc' 6309 = sc 6309) (h : RwK nw nb W B r e n f sc ar) : RwK nw nb W B r e n f sc' ar := by
  unfold RwK RwT
  rw [h1, h2, h3]
  exact h
theorem RwK.ar {nw nb : Int} {W B : Int → Int → Int} {r e : Int → Int} {n : Nat} {f : Int → Int} {sc : Nat → Int} {ar ar' : Nat → Int → Int} (h1 : ar' 65 = ar 65) (h2 : ar' 66 = ar 66) (h3 : ar' 67 = ar 67) (h4 : ar' 68 = ar 68) (h5 : ar' 69 = ar 69) (h : RwK nw nb W B r e n f sc ar) : RwK nw nb W B r e n f sc ar' := by
  unfold RwK RwT
  rw [h1, h2, h3, h4, h5]
  exact h
theorem FrX.sr {sc sc' : Nat → Int} {ar ar' : Nat → Int → Int} {nw nb : Int} {W B : Int → Int → Int} (hs : Same rnF sc sc') (ha : Same rnA ar ar') (h : FrX (sc 303) (sc 304) (ar 5) (ar 6) (ar 7) (ar 8) (ar 10) (ar 11) (ar 12) nw nb W B) : FrX (sc' 303) (sc' 304) (ar' 5) (ar' 6) (ar' 7) (ar' 8) (ar' 10) (ar' 11) (ar' 12) nw nb W B := by
  rw [hs 303 rfl, hs 304 rfl, ha 5 rfl, ha 6 rfl, ha 7 rfl, ha 8 rfl, ha 10 rfl, ha 11 rfl, ha 12 rfl]
  exact h
def rsF : List Nat := rnF ++ [7205]
def cpF : List Nat := rnF ++ [7206, 7209, 7210]
def brF : List Nat := rnF ++ [7207, 7208]
theorem x_rm_l {K : PK} {d : Nat} {tx : Nat} {rl : Nat → Option Nat} {ou : Nat → Int64} {tl : List PO} {q : Nat × Nat} {j n : Nat} {ar : Nat → Int → Int} {Q : Option Value → PG → Prop} {nw nb : Int} {W B : Int → Int → Int} (hF : FrOK nw nb W B) {e : Int → Int} (hj : j < tl.length) {law : Int → Int} (hlw : ∀ j, 0 ≤ j → j < 4 → ar 32 j = law j) (hL : LwOK law) (hW : BwK nw nb W B law ar) : ∀ (m k : Nat) (sc : Nat → Int) (f r : Int → Int) (hm : (k : Int) + m = t3 (mny nw nb W B)) (hX : FrX (sc 303) (sc 304) (ar 5) (ar 6) (ar 7) (ar 8) (ar 10) (ar 11) (ar 12) nw nb W B) (hR : RwK nw nb W B r e n f sc ar) (hmk : (∀ i, 0 ≤ i → i < (k : Int) → r i = rsf nw nb W B law i)) (hk : ∀ sc' f' r', Same [7203, 7204, 7205] sc sc' → sc' 7205 = 1 → RwK nw nb W B r' e n f' sc' ar → (∀ i, 0 ≤ i → i < t3 (mny nw nb W B) → r' i = rsf nw nb W B law i) → Q none (HW sc' ar tx (j + 118) rl ou (otl tl j n f'), q)), RQ K (d + 5) 5 false none cd61 30 [some (.ref 72), some (.int (iI (k : Int)))] [] (HW sc ar tx (j + 118) rl ou (otl tl j n f), q) Q
  | 0, k, sc, f, r, hm, hX, hR, hmk, hk => by
    have hn := hF.1
    have hm1 := hX.1
    have hm2 := hX.2.1
    obtain ⟨hk1, hT, hmo, hn5, ⟨hr, he⟩, hf⟩ := id hR
    have hB := mny_b (nw := nw) (nb := nb) (W := W) (B := B) hF.1.2.1
    have ht3 := t3_r hB
    have hsz : sc 6308 = t3 (mny nw nb W B) := hT.2.2
    have hLL := hL
    unfold LwOK at hLL
    have hrk := rsf_r (nw := nw) (nb := nb) (W := W) (B := B) law (k : Int)
    refine RQ.seg 4 (pc' := 38) (L' := [some (.ref 72), some (.int (iI (k : Int)))]) (st' := [.int (iI (sc 6308)), .int (iI (k : Int))]) (g1 := (HW sc ar tx (j + 118) rl ou (otl tl j n f), q)) rfl ?_
    refine RQ.to (L' := [some (.ref 72), some (.int (iI (k : Int)))]) (st' := [.int (iI (t3 (mny nw nb W B))), .int (iI (k : Int))]) rfl (by rw [show sc 6308 = t3 (mny nw nb W B) from hsz]) ?_
    refine RQ.if2 (a := (k : Int)) (b := (t3 (mny nw nb W B))) rfl rfl rfl rfl (by omega) (by omega) (fun _ => ?_) (fun (q : ¬ t3 (mny nw nb W B) ≤ (k : Int)) => absurd (show t3 (mny nw nb W B) ≤ (k : Int) from by omega) q)
    refine RQ.seg 3 (pc' := 76) (L' := [some (.ref 72), some (.int (iI (k : Int)))]) (st' := []) (g1 := (HW (usc sc 7205 1) ar tx (j + 118) rl ou (otl tl j n f), q)) rfl ?_
    refine RQ.ret rfl rfl ?_
    exact hk (usc sc 7205 1) f r (Same.us rfl Same.rf) rfl (hR.fl rfl rfl rfl) (fun i i0 i1 => hmk i i0 (by omega))
  | m + 1, k, sc, f, r, hm, hX, hR, hmk, hk => by
    have hn := hF.1
    have hm1 := hX.1
    have hm2 := hX.2.1
    obtain ⟨hk1, hT, hmo, hn5, ⟨hr, he⟩, hf⟩ := id hR
    have hB := mny_b (nw := nw) (nb := nb) (W := W) (B := B) hF.1.2.1
    have ht3 := t3_r hB
    have hsz : sc 6308 = t3 (mny nw nb W B) := hT.2.2
    have hLL := hL
    unfold LwOK at hLL
    have hrk := rsf_r (nw := nw) (nb := nb) (W := W) (B := B) law (k : Int)
    refine RQ.seg 4 (pc' := 38) (L' := [some (.ref 72), some (.int (iI (k : Int)))]) (st' := [.int (iI (sc 6308)), .int (iI (k : Int))]) (g1 := (HW sc ar tx (j + 118) rl ou (otl tl j n f), q)) rfl ?_
    refine RQ.to (L' := [some (.ref 72), some (.int (iI (k : Int)))]) (st' := [.int (iI (t3 (mny nw nb W B))), .int (iI (k : Int))]) rfl (by rw [show sc 6308 = t3 (mny nw nb W B) from hsz]) ?_
    refine RQ.if2 (a := (k : Int)) (b := (t3 (mny nw nb W B))) rfl rfl rfl rfl (by omega) (by omega) (fun (q : t3 (mny nw nb W B) ≤ (k : Int)) => absurd q (show ¬ t3 (mny nw nb W B) ≤ (k : Int) from by omega)) (fun _ => ?_)
    refine RQ.seg 10 (pc' := 58) (L' := [some (.ref 72), some (.int (iI (k : Int)))]) (st' := [.int (iI 3), .ref 32, .int (iI (k : Int)), .ref 72, .int (iI 16777216), .int (iI (k : Int)), .ref 63]) (g1 := (HW sc ar tx (j + 118) rl ou (otl tl j n f), q)) rfl ?_
    refine RQ.ialdv (z := 3) (v := (law 3)) rfl rfl rfl (by omega) (by decide) (hlw 3 (by omega) (by omega)) ?_
    refine RQ.callQ rfl rfl (x_isRestQ (i := (k : Int)) (q0 := law 3) hF hX hj hR hlw hL (by omega) (show BwK nw nb W B (lwq law (law 3)) ar by rw [lwq_self]; exact hW) (by omega)) (fun rv g1 hc => ?_)
    obtain ⟨rfl, l, u, rfl⟩ := hc
    rw [lwq_self]
    have hR1 : RwK nw nb W B r e n f (usc (usc sc 7203 l) 7204 u) ar := hR.fl rfl rfl rfl
    refine RQ.call rfl rfl (CallR.up (d := 1) (x_markR (d := 0) (sc := usc (usc sc 7203 l) 7204 u) (ar := ar) (i := (k : Int)) (v := rsf nw nb W B law (k : Int)) hF hX hj hR1 (by omega) (by omega)) (by omega)) ?_
    refine RQ.seg 2 (pc' := 30) (L' := [some (.ref 72), some (.int ((iI (k : Int)) + (iI 1)))]) (st' := []) (g1 := (HW (usc (usc sc 7203 l) 7204 u) ar tx (j + 118) rl ou (otl tl j n (usz f (k : Int) (pkm (oci nw nb W B (k : Int)) (rsf nw nb W B law (k : Int)) (e (k : Int))))), q)) rfl ?_
    refine RQ.to (L' := [some (.ref 72), some (.int (iI ((k : Int) + 1)))]) (st' := []) (by simp only [iI_add, iI_sub, iI_mul, iI_neg]) rfl ?_
    refine x_rm_l hF hj hlw hL hW m (k + 1) (usc (usc sc 7203 l) 7204 u) _ (usz r (k : Int) (rsf nw nb W B law (k : Int))) (by omega) hX (hR1.mr (k : Int) (by omega)) (fun i i0 i1 => ?_) (fun sc' f' r' a1 a2 a3 a4 => hk sc' f' r' (Same.tr (Same.us rfl (Same.us rfl Same.rf)) a1) a2 a3 a4)
    by_cases e9 : i = (k : Int)
    · subst e9; exact usz_s _ _ _
    · rw [usz_n e9]; exact hmk i i0 (by omega)
theorem x_rfind {K : PK} {d : Nat} {sc : Nat → Int} {ar : Nat → Int → Int} {tx oc : Nat} {rl : Nat → Option Nat} {ou : Nat → Int64} {tl : List PO} {q : Nat × Nat} {nw nb : Int} {W B : Int → Int → Int} (hF : FrOK nw nb W B) (hX : FrX (sc 303) (sc 304) (ar 5) (ar 6) (ar 7) (ar 8) (ar 10) (ar 11) (ar 12) nw nb W B) {law : Int → Int} (hlw : ∀ j, 0 ≤ j → j < 4 → ar 32 j = law j) (hL : LwOK law) (hnb : 0 < nb) {r e : Int → Int} {n : Nat} (hS : RwS nw nb W B r e n oc tl sc ar) (hfl : 0 ≤ sc 7205 ∧ sc 7205 ≤ 1) (hKR : sc 7205 = 1 → sc 6306 = 1 ∧ ∀ i, 0 ≤ i → i < t3 (mny nw nb W B) → r i = rsf nw nb W B law i) : CQ K (d + 6) 61 [.ref 72] (HW sc ar tx oc rl ou tl, q) (fun rv g' => rv = none ∧ RwP nw nb W B oc n tl q tx rl ou g' (fun sc' ar' r' e' => Same rsF sc sc' ∧ Same rnA ar ar' ∧ sc' 7205 = 1 ∧ (∀ i, 0 ≤ i → i < t3 (mny nw nb W B) → r' i = rsf nw nb W B law i) ∧ (sc 6306 = 1 → e' = e))) := by
  have hn := hF.1
  have hm1 := hX.1
  have hm2 := hX.2.1
  have hB := mny_b (nw := nw) (nb := nb) (W := W) (B := B) hF.1.2.1
  have ht3 := t3_r hB
  have hLL := hL
  unfold LwOK at hLL
  refine CQ.of (own := 5) (n := 2) (ini := false) (rt := none) (cd := cd61) (by decide +kernel) rfl (by decide +kernel) rfl (Nat.le_of_ble_eq_true rfl) ?_
  refine RQ.seg 2 (pc' := 4) (L' := [some (.ref 72), none]) (st' := [.int (iI (sc 7205))]) (g1 := (HW sc ar tx oc rl ou tl, q)) rfl ?_
  refine RQ.if1 (a := (sc 7205)) rfl rfl rfl (by omega) (fun (h1 : sc 7205 = 0) => ?_) (fun (h1 : ¬ sc 7205 = 0) => ?_)
  · skip
    refine RQ.seg 2 (pc' := 12) (L' := [some (.ref 72), none]) (st' := [.ref 63]) (g1 := (HW sc ar tx oc rl ou tl, q)) rfl ?_
    refine RQ.callQ rfl rfl ((x_findAll (d := 0) (sc := sc) (ar := ar) hF hX hnb hS).up (by omega)) (fun rv g1 hc => ?_)
    obtain ⟨rfl, sc1, ar1, j1, n1, f1, tl1, q1, r1, e1, rfl, hj1, hR1, htl1, hqn1, hs1, ha1, hre1⟩ := hc
    have hX1 := hX.sr hs1 ha1
    have hlw1 : ∀ j, 0 ≤ j → j < 4 → ar1 32 j = law j := fun j h0 h1 => (congrFun (ha1 32 rfl) j).trans (hlw j h0 h1)
    refine RQ.seg 5 (pc' := 24) (L' := [some (.ref 72), none]) (st' := [.int (iI 3), .ref 32, .ref 72]) (g1 := (HW sc1 ar1 tx (j1 + 118) rl ou (otl tl1 j1 n1 f1), q1)) rfl ?_
    refine RQ.ialdv (z := 3) (v := (law 3)) rfl rfl rfl (by omega) (by decide) (hlw1 3 (by omega) (by omega)) ?_
    refine RQ.callQ rfl rfl ((x_findBest (d := 0) (q0 := law 3) hF hX1 hj1 hR1 hlw1 hL (by omega)).up (by omega)) (fun rv g1 hc => ?_)
    obtain ⟨rfl, ar2, rfl, ha2, hW2⟩ := hc
    have hR2 : RwK nw nb W B r1 e1 n1 f1 sc1 ar2 := hR1.ar (ha2 65 rfl) (ha2 66 rfl) (ha2 67 rfl) (ha2 68 rfl) (ha2 69 rfl)
    have hX2 : FrX (sc1 303) (sc1 304) (ar2 5) (ar2 6) (ar2 7) (ar2 8) (ar2 10) (ar2 11) (ar2 12) nw nb W B := by rw [ha2 5 rfl, ha2 6 rfl, ha2 7 rfl, ha2 8 rfl, ha2 10 rfl, ha2 11 rfl, ha2 12 rfl]; exact hX1
    have hlw2 : ∀ j, 0 ≤ j → j < 4 → ar2 32 j = law j := fun j h0 h1 => (congrFun (ha2 32 rfl) j).trans (hlw1 j h0 h1)
    have ha3 : Same rnA ar ar2 := Same.tr ha1 (ha2.w rfl)
    rw [lwq_self] at hW2
    refine RQ.seg 2 (pc' := 30) (L' := [some (.ref 72), some (.int (iI 0))]) (st' := []) (g1 := (HW sc1 ar2 tx (j1 + 118) rl ou (otl tl1 j1 n1 f1), q1)) rfl ?_
    refine x_rm_l hF hj1 hlw2 hL hW2 (t3 (mny nw nb W B)).toNat 0 sc1 f1 r1 (by omega) hX2 hR2 (fun i i0 i1 => absurd i1 (by omega)) (fun sc' f' r' a1 a2 a3 a4 => ?_)
    exact ⟨rfl, sc', ar2, j1, n1, f', tl1, q1, r', e1, rfl, hj1, a3, htl1, hqn1, Same.tr (hs1.w rfl) (a1.w rfl), ha3, a2, a4, fun z => (hre1 z).2⟩
  · skip
    refine RQ.ret rfl rfl ?_
    rcases hS with ⟨h1, j, f, rfl, hj, e0, hR⟩ | ⟨h0, _⟩
    · exact ⟨rfl, sc, ar, j, n, f, tl, q, r, e, congrArg (fun t => (HW sc ar tx (j + 118) rl ou t, q)) e0, hj, hR, ⟨Nat.le_refl _, fun _ _ _ => rfl, Or.inl rfl⟩, Or.inl ⟨rfl, rfl⟩, Same.rf, Same.rf, by omega, (hKR (by omega)).2, fun _ => rfl⟩
    · exact absurd (h0.symm.trans (hKR (by omega)).1) (by decide)
theorem x_ws_l {K : PK} {d : Nat} {sc : Nat → Int} {ar : Nat → Int → Int} {tx : Nat} {rl : Nat → Option Nat} {ou : Nat → Int64} {tl : List PO} {q : Nat × Nat} {j n : Nat} {f : Int → Int} {Q : Option Value → PG → Prop} {nw nb : Int} {W B : Int → Int → Int} (hF : FrOK nw nb W B) (hX : FrX (sc 303) (sc 304) (ar 5) (ar 6) (ar 7) (ar 8) (ar 10) (ar 11) (ar 12) nw nb W B) {r e : Int → Int} (hj : j < tl.length) (hR : RwK nw nb W B r e n f sc ar) (hk : Q (some (.int (iI (lsr r (rsv nw nb W B) (t3 (mny nw nb W B)).toNat)))) (HW sc ar tx (j + 118) rl ou (otl tl j n f), q)) : ∀ (m k : Nat) (hm : (k : Int) + m = t3 (mny nw nb W B)), RQ K (d + 3) 5 false (some .int) cd62 8 [some (.ref 72), some (.int (iI (lsr r (rsv nw nb W B) k))), some (.int (iI (k : Int)))] [] (HW sc ar tx (j + 118) rl ou (otl tl j n f), q) Q
  | 0, k, hm => by
    have hn := hF.1
    have hm1 := hX.1
    have hm2 := hX.2.1
    obtain ⟨hk1, hT, hmo, hn5, ⟨hr, he⟩, hf⟩ := id hR
    have hB := mny_b (nw := nw) (nb := nb) (W := W) (B := B) hF.1.2.1
    have ht3 := t3_r hB
    have hsz : sc 6308 = t3 (mny nw nb W B) := hT.2.2
    have hv0 := rsv_r hF (k : Int)
    have hv1 := lsr_r (r := r) (rsv_r hF) k
    have hrk := hr (k : Int)
    refine RQ.seg 4 (pc' := 16) (L' := [some (.ref 72), some (.int (iI (lsr r (rsv nw nb W B) k))), some (.int (iI (k : Int)))]) (st' := [.int (iI (sc 6308)), .int (iI (k : Int))]) (g1 := (HW sc ar tx (j + 118) rl ou (otl tl j n f), q)) rfl ?_
    refine RQ.to (L' := [some (.ref 72), some (.int (iI (lsr r (rsv nw nb W B) k))), some (.int (iI (k : Int)))]) (st' := [.int (iI (t3 (mny nw nb W B))), .int (iI (k : Int))]) rfl (by rw [show sc 6308 = t3 (mny nw nb W B) from hsz]) ?_
    refine RQ.if2 (a := (k : Int)) (b := (t3 (mny nw nb W B))) rfl rfl rfl rfl (by omega) (by omega) (fun _ => ?_) (fun (q : ¬ t3 (mny nw nb W B) ≤ (k : Int)) => absurd (show t3 (mny nw nb W B) ≤ (k : Int) from by omega) q)
    refine RQ.seg 1 (pc' := 65) (L' := [some (.ref 72), some (.int (iI (lsr r (rsv nw nb W B) k))), some (.int (iI (k : Int)))]) (st' := [.int (iI (lsr r (rsv nw nb W B) k))]) (g1 := (HW sc ar tx (j + 118) rl ou (otl tl j n f), q)) rfl ?_
    refine RQ.ret rfl rfl ?_
    rw [show (t3 (mny nw nb W B)).toNat = k by omega] at hk
    exact hk
  | m + 1, k, hm => by
    have hn := hF.1
    have hm1 := hX.1
    have hm2 := hX.2.1
    obtain ⟨hk1, hT, hmo, hn5, ⟨hr, he⟩, hf⟩ := id hR
    have hB := mny_b (nw := nw) (nb := nb) (W := W) (B := B) hF.1.2.1
    have ht3 := t3_r hB
    have hsz : sc 6308 = t3 (mny nw nb W B) := hT.2.2
    have hv0 := rsv_r hF (k : Int)
    have hv1 := lsr_r (r := r) (rsv_r hF) k
    have hrk := hr (k : Int)
    refine RQ.seg 4 (pc' := 16) (L' := [some (.ref 72), some (.int (iI (lsr r (rsv nw nb W B) k))), some (.int (iI (k : Int)))]) (st' := [.int (iI (sc 6308)), .int (iI (k : Int))]) (g1 := (HW sc ar tx (j + 118) rl ou (otl tl j n f), q)) rfl ?_
    refine RQ.to (L' := [some (.ref 72), some (.int (iI (lsr r (rsv nw nb W B) k))), some (.int (iI (k : Int)))]) (st' := [.int (iI (t3 (mny nw nb W B))), .int (iI (k : Int))]) rfl (by rw [show sc 6308 = t3 (mny nw nb W B) from hsz]) ?_
    refine RQ.if2 (a := (k : Int)) (b := (t3 (mny nw nb W B))) rfl rfl rfl rfl (by omega) (by omega) (fun (q : t3 (mny nw nb W B) ≤ (k : Int)) => absurd q (show ¬ t3 (mny nw nb W B) ≤ (k : Int) from by omega)) (fun _ => ?_)
    refine RQ.seg 4 (pc' := 26) (L' := [some (.ref 72), some (.int (iI (lsr r (rsv nw nb W B) k))), some (.int (iI (k : Int)))]) (st' := [.int (iI 16777216), .int (iI (k : Int)), .ref 63]) (g1 := (HW sc ar tx (j + 118) rl ou (otl tl j n f), q)) rfl ?_
    rcases (show r (k : Int) = 1 ∨ r (k : Int) = 0 by omega) with h5 | h5
    · skip
      refine RQ.call rfl rfl (CallR.up (d := 1) (x_isR_t (d := 0) hF hX hj hR (by omega) h5) (by omega)) ?_
      refine RQ.seg 3 (pc' := 34) (L' := [some (.ref 72), some (.int (iI (lsr r (rsv nw nb W B) k))), some (.int (iI (k : Int)))]) (st' := [.int (iI (-1)), .int (iI (lsr r (rsv nw nb W B) k))]) (g1 := (HW sc ar tx (j + 118) rl ou (otl tl j n f), q)) rfl ?_
      refine RQ.if2 (a := (lsr r (rsv nw nb W B) k)) (b := (-1)) rfl rfl rfl rfl (by omega) (by omega) (fun (h2 : lsr r (rsv nw nb W B) k = (-1)) => ?_) (fun (h2 : ¬ lsr r (rsv nw nb W B) k = (-1)) => ?_)
      · skip
        refine RQ.seg 3 (pc' := 54) (L' := [some (.ref 72), some (.int (iI (lsr r (rsv nw nb W B) k))), some (.int (iI (k : Int)))]) (st' := [.int (iI (k : Int)), .ref 63]) (g1 := (HW sc ar tx (j + 118) rl ou (otl tl j n f), q)) rfl ?_
        refine RQ.call rfl rfl (CallR.up (d := 2) (x_savedAtI (d := 0) (i := (k : Int)) hF hX hj hR (by omega)) (by omega)) ?_
        refine RQ.seg 3 (pc' := 8) (L' := [some (.ref 72), some (.int (iI (rsv nw nb W B (k : Int)))), some (.int ((iI (k : Int)) + (iI 1)))]) (st' := []) (g1 := (HW sc ar tx (j + 118) rl ou (otl tl j n f), q)) rfl ?_
        refine RQ.to (L' := [some (.ref 72), some (.int (iI (rsv nw nb W B (k : Int)))), some (.int (iI ((k : Int) + 1)))]) (st' := []) (by simp only [iI_add, iI_sub, iI_mul, iI_neg]) rfl ?_
        have e9 : rsv nw nb W B (k : Int) = lsr r (rsv nw nb W B) (k + 1) := by rw [lsr]; first | rw [if_pos (by omega)] | rw [if_neg (by omega)]
        have e10 := x_ws_l (K := K) (d := d) hF hX hj hR hk m (k + 1) (by omega)
        rw [← e9] at e10
        exact e10
      · skip
        refine RQ.seg 3 (pc' := 42) (L' := [some (.ref 72), some (.int (iI (lsr r (rsv nw nb W B) k))), some (.int (iI (k : Int)))]) (st' := [.int (iI (k : Int)), .ref 63]) (g1 := (HW sc ar tx (j + 118) rl ou (otl tl j n f), q)) rfl ?_
        refine RQ.call rfl rfl (CallR.up (d := 2) (x_savedAtI (d := 0) (i := (k : Int)) hF hX hj hR (by omega)) (by omega)) ?_
        refine RQ.seg 1 (pc' := 46) (L' := [some (.ref 72), some (.int (iI (lsr r (rsv nw nb W B) k))), some (.int (iI (k : Int)))]) (st' := [.int (iI (lsr r (rsv nw nb W B) k)), .int (iI (rsv nw nb W B (k : Int)))]) (g1 := (HW sc ar tx (j + 118) rl ou (otl tl j n f), q)) rfl ?_
        refine RQ.if2 (a := (rsv nw nb W B (k : Int))) (b := (lsr r (rsv nw nb W B) k)) rfl rfl rfl rfl (by omega) (by omega) (fun (h3 : lsr r (rsv nw nb W B) k ≤ rsv nw nb W B (k : Int)) => ?_) (fun (h3 : ¬ lsr r (rsv nw nb W B) k ≤ rsv nw nb W B (k : Int)) => ?_)
        · skip
          refine RQ.seg 2 (pc' := 8) (L' := [some (.ref 72), some (.int (iI (lsr r (rsv nw nb W B) k))), some (.int ((iI (k : Int)) + (iI 1)))]) (st' := []) (g1 := (HW sc ar tx (j + 118) rl ou (otl tl j n f), q)) rfl ?_
          refine RQ.to (L' := [some (.ref 72), some (.int (iI (lsr r (rsv nw nb W B) k))), some (.int (iI ((k : Int) + 1)))]) (st' := []) (by simp only [iI_add, iI_sub, iI_mul, iI_neg]) rfl ?_
          have e9 : lsr r (rsv nw nb W B) k = lsr r (rsv nw nb W B) (k + 1) := by rw [lsr]; first | rw [if_pos (by omega)] | rw [if_neg (by omega)]
          have e10 := x_ws_l (K := K) (d := d) hF hX hj hR hk m (k + 1) (by omega)
          rw [← e9] at e10
          exact e10
        · skip
          refine RQ.seg 3 (pc' := 54) (L' := [some (.ref 72), some (.int (iI (lsr r (rsv nw nb W B) k))), some (.int (iI (k : Int)))]) (st' := [.int (iI (k : Int)), .ref 63]) (g1 := (HW sc ar tx (j + 118) rl ou (otl tl j n f), q)) rfl ?_
          refine RQ.call rfl rfl (CallR.up (d := 2) (x_savedAtI (d := 0) (i := (k : Int)) hF hX hj hR (by omega)) (by omega)) ?_
          refine RQ.seg 3 (pc' := 8) (L' := [some (.ref 72), some (.int (iI (rsv nw nb W B (k : Int)))), some (.int ((iI (k : Int)) + (iI 1)))]) (st' := []) (g1 := (HW sc ar tx (j + 118) rl ou (otl tl j n f), q)) rfl ?_
          refine RQ.to (L' := [some (.ref 72), some (.int (iI (rsv nw nb W B (k : Int)))), some (.int (iI ((k : Int) + 1)))]) (st' := []) (by simp only [iI_add, iI_sub, iI_mul, iI_neg]) rfl ?_
          have e9 : rsv nw nb W B (k : Int) = lsr r (rsv nw nb W B) (k + 1) := by rw [lsr]; first | rw [if_pos (by omega)] | rw [if_neg (by omega)]
          have e10 := x_ws_l (K := K) (d := d) hF hX hj hR hk m (k + 1) (by omega)
          rw [← e9] at e10
          exact e10
    · skip
      refine RQ.call rfl rfl (CallR.up (d := 1) (x_isR_f (d := 0) hF hX hj hR (by omega) h5) (by omega)) ?_
      refine RQ.seg 3 (pc' := 8) (L' := [some (.ref 72), some (.int (iI (lsr r (rsv nw nb W B) k))), some (.int ((iI (k : Int)) + (iI 1)))]) (st' := []) (g1 := (HW sc ar tx (j + 118) rl ou (otl tl j n f), q)) rfl ?_
      refine RQ.to (L' := [some (.ref 72), some (.int (iI (lsr r (rsv nw nb W B) k))), some (.int (iI ((k : Int) + 1)))]) (st' := []) (by simp only [iI_add, iI_sub, iI_mul, iI_neg]) rfl ?_
      have e9 : lsr r (rsv nw nb W B) k = lsr r (rsv nw nb W B) (k + 1) := by rw [lsr]; first | rw [if_pos (by omega)] | rw [if_neg (by omega)]
      have e10 := x_ws_l (K := K) (d := d) hF hX hj hR hk m (k + 1) (by omega)
      rw [← e9] at e10
      exact e10
theorem x_worst {K : PK} {d : Nat} {sc : Nat → Int} {ar : Nat → Int → Int} {tx oc : Nat} {rl : Nat → Option Nat} {ou : Nat → Int64} {tl : List PO} {q : Nat × Nat} {nw nb : Int} {W B : Int → Int → Int} (hF : FrOK nw nb W B) (hX : FrX (sc 303) (sc 304) (ar 5) (ar 6) (ar 7) (ar 8) (ar 10) (ar 11) (ar 12) nw nb W B) {law : Int → Int} (hlw : ∀ j, 0 ≤ j → j < 4 → ar 32 j = law j) (hL : LwOK law) (hnb : 0 < nb) {r e : Int → Int} {n : Nat} (hS : RwS nw nb W B r e n oc tl sc ar) (hfl : 0 ≤ sc 7205 ∧ sc 7205 ≤ 1) (hKR : sc 7205 = 1 → sc 6306 = 1 ∧ ∀ i, 0 ≤ i → i < t3 (mny nw nb W B) → r i = rsf nw nb W B law i) : CQ K (d + 7) 62 [.ref 72] (HW sc ar tx oc rl ou tl, q) (fun rv g' => rv = some (.int (iI (lsv nw nb W B law))) ∧ RwP nw nb W B oc n tl q tx rl ou g' (fun sc' ar' r' e' => Same rsF sc sc' ∧ Same rnA ar ar' ∧ sc' 7205 = 1 ∧ (∀ i, 0 ≤ i → i < t3 (mny nw nb W B) → r' i = rsf nw nb W B law i) ∧ (sc 6306 = 1 → e' = e))) := by
  have hn := hF.1
  have hm1 := hX.1
  have hm2 := hX.2.1
  have hB := mny_b (nw := nw) (nb := nb) (W := W) (B := B) hF.1.2.1
  have ht3 := t3_r hB
  have hLL := hL
  unfold LwOK at hLL
  refine CQ.of (own := 5) (n := 3) (ini := false) (rt := (some .int)) (cd := cd62) (by decide +kernel) rfl (by decide +kernel) rfl (Nat.le_of_ble_eq_true rfl) ?_
  refine RQ.seg 1 (pc' := 1) (L' := [some (.ref 72), none, none]) (st' := [.ref 72]) (g1 := (HW sc ar tx oc rl ou tl, q)) rfl ?_
  refine RQ.callQ rfl rfl (x_rfind hF hX hlw hL hnb hS hfl hKR) (fun rv g1 hc => ?_)
  obtain ⟨rfl, sc1, ar1, j1, n1, f1, tl1, q1, r1, e1, rfl, hj1, hR1, htl1, hqn1, hs1, ha1, h71, hmk1, hee1⟩ := hc
  have hX1 : FrX (sc1 303) (sc1 304) (ar1 5) (ar1 6) (ar1 7) (ar1 8) (ar1 10) (ar1 11) (ar1 12) nw nb W B := by rw [hs1 303 rfl, hs1 304 rfl, ha1 5 rfl, ha1 6 rfl, ha1 7 rfl, ha1 8 rfl, ha1 10 rfl, ha1 11 rfl, ha1 12 rfl]; exact hX
  refine RQ.seg 4 (pc' := 8) (L' := [some (.ref 72), some (.int (iI (-1))), some (.int (iI 0))]) (st' := []) (g1 := (HW sc1 ar1 tx (j1 + 118) rl ou (otl tl1 j1 n1 f1), q1)) rfl ?_
  refine x_ws_l hF hX1 hj1 hR1 ⟨?_, ⟨sc1, ar1, j1, n1, f1, tl1, q1, r1, e1, rfl, hj1, hR1, htl1, hqn1, hs1, ha1, h71, hmk1, hee1⟩⟩ (t3 (mny nw nb W B)).toNat 0 (by omega)
  congr 3; exact lsr_c hmk1 (t3 (mny nw nb W B)).toNat (by omega)
theorem x_ms_l {K : PK} {d : Nat} {tx : Nat} {rl : Nat → Option Nat} {ou : Nat → Int64} {tl : List PO} {q : Nat × Nat} {j n : Nat} {ar : Nat → Int → Int} {Q : Option Value → PG → Prop} {nw nb : Int} {W B : Int → Int → Int} (hF : FrOK nw nb W B) {r e f : Int → Int} (hj : j < tl.length) {law : Int → Int} (hlw : ∀ j, 0 ≤ j → j < 4 → ar 32 j = law j) (hL : LwOK law) {q0 : Int} (hq0 : 0 ≤ q0 ∧ q0 ≤ 2) (hW : BwK nw nb W B (lwq law q0) ar) : ∀ (m k : Nat) (sc : Nat → Int) (hm : (k : Int) + m = t3 (mny nw nb W B)) (hX : FrX (sc 303) (sc 304) (ar 5) (ar 6) (ar 7) (ar 8) (ar 10) (ar 11) (ar 12) nw nb W B) (hR : RwK nw nb W B r e n f sc ar) (hk : ∀ sc', Same [7203, 7204] sc sc' → RwK nw nb W B r e n f sc' ar → Q (some (.int (iI (msr (rsf nw nb W B (lwq law q0)) (rsv nw nb W B) (t3 (mny nw nb W B)).toNat)))) (HW sc' ar tx (j + 118) rl ou (otl tl j n f), q)), RQ K (d + 5) 5 false (some .int) cd64 9 [some (.ref 72), some (.int (iI q0)), some (.int (iI (msr (rsf nw nb W B (lwq law q0)) (rsv nw nb W B) k))), some (.int (iI (k : Int)))] [] (HW sc ar tx (j + 118) rl ou (otl tl j n f), q) Q
  | 0, k, sc, hm, hX, hR, hk => by
    have hn := hF.1
    have hm1 := hX.1
    have hm2 := hX.2.1
    obtain ⟨hk1, hT, hmo, hn5, ⟨hr, he⟩, hf⟩ := id hR
    have hB := mny_b (nw := nw) (nb := nb) (W := W) (B := B) hF.1.2.1
    have ht3 := t3_r hB
    have hsz : sc 6308 = t3 (mny nw nb W B) := hT.2.2
    have hv0 := rsv_r hF (k : Int)
    have hv1 := msr_r (r := rsf nw nb W B (lwq law q0)) (rsv_r hF) k
    have hrk := rsf_r (nw := nw) (nb := nb) (W := W) (B := B) (lwq law q0) (k : Int)
    refine RQ.seg 4 (pc' := 17) (L' := [some (.ref 72), some (.int (iI q0)), some (.int (iI (msr (rsf nw nb W B (lwq law q0)) (rsv nw nb W B) k))), some (.int (iI (k : Int)))]) (st' := [.int (iI (sc 6308)), .int (iI (k : Int))]) (g1 := (HW sc ar tx (j + 118) rl ou (otl tl j n f), q)) rfl ?_
    refine RQ.to (L' := [some (.ref 72), some (.int (iI q0)), some (.int (iI (msr (rsf nw nb W B (lwq law q0)) (rsv nw nb W B) k))), some (.int (iI (k : Int)))]) (st' := [.int (iI (t3 (mny nw nb W B))), .int (iI (k : Int))]) rfl (by rw [show sc 6308 = t3 (mny nw nb W B) from hsz]) ?_
    refine RQ.if2 (a := (k : Int)) (b := (t3 (mny nw nb W B))) rfl rfl rfl rfl (by omega) (by omega) (fun _ => ?_) (fun (q : ¬ t3 (mny nw nb W B) ≤ (k : Int)) => absurd (show t3 (mny nw nb W B) ≤ (k : Int) from by omega) q)
    refine RQ.seg 1 (pc' := 57) (L' := [some (.ref 72), some (.int (iI q0)), some (.int (iI (msr (rsf nw nb W B (lwq law q0)) (rsv nw nb W B) k))), some (.int (iI (k : Int)))]) (st' := [.int (iI (msr (rsf nw nb W B (lwq law q0)) (rsv nw nb W B) k))]) (g1 := (HW sc ar tx (j + 118) rl ou (otl tl j n f), q)) rfl ?_
    refine RQ.ret rfl rfl ?_
    rw [show (t3 (mny nw nb W B)).toNat = k by omega] at hk
    exact hk sc Same.rf hR
  | m + 1, k, sc, hm, hX, hR, hk => by
    have hn := hF.1
    have hm1 := hX.1
    have hm2 := hX.2.1
    obtain ⟨hk1, hT, hmo, hn5, ⟨hr, he⟩, hf⟩ := id hR
    have hB := mny_b (nw := nw) (nb := nb) (W := W) (B := B) hF.1.2.1
    have ht3 := t3_r hB
    have hsz : sc 6308 = t3 (mny nw nb W B) := hT.2.2
    have hv0 := rsv_r hF (k : Int)
    have hv1 := msr_r (r := rsf nw nb W B (lwq law q0)) (rsv_r hF) k
    have hrk := rsf_r (nw := nw) (nb := nb) (W := W) (B := B) (lwq law q0) (k : Int)
    refine RQ.seg 4 (pc' := 17) (L' := [some (.ref 72), some (.int (iI q0)), some (.int (iI (msr (rsf nw nb W B (lwq law q0)) (rsv nw nb W B) k))), some (.int (iI (k : Int)))]) (st' := [.int (iI (sc 6308)), .int (iI (k : Int))]) (g1 := (HW sc ar tx (j + 118) rl ou (otl tl j n f), q)) rfl ?_
    refine RQ.to (L' := [some (.ref 72), some (.int (iI q0)), some (.int (iI (msr (rsf nw nb W B (lwq law q0)) (rsv nw nb W B) k))), some (.int (iI (k : Int)))]) (st' := [.int (iI (t3 (mny nw nb W B))), .int (iI (k : Int))]) rfl (by rw [show sc 6308 = t3 (mny nw nb W B) from hsz]) ?_
    refine RQ.if2 (a := (k : Int)) (b := (t3 (mny nw nb W B))) rfl rfl rfl rfl (by omega) (by omega) (fun (q : t3 (mny nw nb W B) ≤ (k : Int)) => absurd q (show ¬ t3 (mny nw nb W B) ≤ (k : Int) from by omega)) (fun _ => ?_)
    refine RQ.seg 3 (pc' := 25) (L' := [some (.ref 72), some (.int (iI q0)), some (.int (iI (msr (rsf nw nb W B (lwq law q0)) (rsv nw nb W B) k))), some (.int (iI (k : Int)))]) (st' := [.int (iI (k : Int)), .ref 63]) (g1 := (HW sc ar tx (j + 118) rl ou (otl tl j n f), q)) rfl ?_
    refine RQ.call rfl rfl (CallR.up (d := 2) (x_savedAtI (d := 0) (sc := sc) (ar := ar) (i := (k : Int)) hF hX hj hR (by omega)) (by omega)) ?_
    refine RQ.seg 1 (pc' := 29) (L' := [some (.ref 72), some (.int (iI q0)), some (.int (iI (msr (rsf nw nb W B (lwq law q0)) (rsv nw nb W B) k))), some (.int (iI (k : Int)))]) (st' := [.int (iI (msr (rsf nw nb W B (lwq law q0)) (rsv nw nb W B) k)), .int (iI (rsv nw nb W B (k : Int)))]) (g1 := (HW sc ar tx (j + 118) rl ou (otl tl j n f), q)) rfl ?_
    refine RQ.if2 (a := (rsv nw nb W B (k : Int))) (b := (msr (rsf nw nb W B (lwq law q0)) (rsv nw nb W B) k)) rfl rfl rfl rfl (by omega) (by omega) (fun (h2 : rsv nw nb W B (k : Int) ≤ msr (rsf nw nb W B (lwq law q0)) (rsv nw nb W B) k) => ?_) (fun (h2 : ¬ rsv nw nb W B (k : Int) ≤ msr (rsf nw nb W B (lwq law q0)) (rsv nw nb W B) k) => ?_)
    · skip
      refine RQ.seg 2 (pc' := 9) (L' := [some (.ref 72), some (.int (iI q0)), some (.int (iI (msr (rsf nw nb W B (lwq law q0)) (rsv nw nb W B) k))), some (.int ((iI (k : Int)) + (iI 1)))]) (st' := []) (g1 := (HW sc ar tx (j + 118) rl ou (otl tl j n f), q)) rfl ?_
      refine RQ.to (L' := [some (.ref 72), some (.int (iI q0)), some (.int (iI (msr (rsf nw nb W B (lwq law q0)) (rsv nw nb W B) k))), some (.int (iI ((k : Int) + 1)))]) (st' := []) (by simp only [iI_add, iI_sub, iI_mul, iI_neg]) rfl ?_
      have e9 : msr (rsf nw nb W B (lwq law q0)) (rsv nw nb W B) k = msr (rsf nw nb W B (lwq law q0)) (rsv nw nb W B) (k + 1) := by rw [msr]; first | rw [if_pos (by omega)] | rw [if_neg (by omega)]
      have e10 := x_ms_l (K := K) (d := d) hF hj hlw hL hq0 hW m (k + 1) sc (by omega) hX hR hk
      rw [← e9] at e10
      exact e10
    · skip
      refine RQ.seg 3 (pc' := 35) (L' := [some (.ref 72), some (.int (iI q0)), some (.int (iI (msr (rsf nw nb W B (lwq law q0)) (rsv nw nb W B) k))), some (.int (iI (k : Int)))]) (st' := [.int (iI q0), .int (iI (k : Int)), .ref 72]) (g1 := (HW sc ar tx (j + 118) rl ou (otl tl j n f), q)) rfl ?_
      refine RQ.callQ rfl rfl (x_isRestQ (i := (k : Int)) hF hX hj hR hlw hL hq0 hW (by omega)) (fun rv g1 hc => ?_)
      obtain ⟨rfl, l, u, rfl⟩ := hc
      refine RQ.if1 (a := (rsf nw nb W B (lwq law q0) (k : Int))) rfl rfl rfl (by omega) (fun (h3 : rsf nw nb W B (lwq law q0) (k : Int) = 0) => ?_) (fun (h3 : ¬ rsf nw nb W B (lwq law q0) (k : Int) = 0) => ?_)
      · skip
        refine RQ.seg 2 (pc' := 9) (L' := [some (.ref 72), some (.int (iI q0)), some (.int (iI (msr (rsf nw nb W B (lwq law q0)) (rsv nw nb W B) k))), some (.int ((iI (k : Int)) + (iI 1)))]) (st' := []) (g1 := (HW (usc (usc sc 7203 l) 7204 u) ar tx (j + 118) rl ou (otl tl j n f), q)) rfl ?_
        refine RQ.to (L' := [some (.ref 72), some (.int (iI q0)), some (.int (iI (msr (rsf nw nb W B (lwq law q0)) (rsv nw nb W B) k))), some (.int (iI ((k : Int) + 1)))]) (st' := []) (by simp only [iI_add, iI_sub, iI_mul, iI_neg]) rfl ?_
        have e9 : msr (rsf nw nb W B (lwq law q0)) (rsv nw nb W B) k = msr (rsf nw nb W B (lwq law q0)) (rsv nw nb W B) (k + 1) := by rw [msr]; first | rw [if_pos (by omega)] | rw [if_neg (by omega)]
        have e10 := x_ms_l (K := K) (d := d) (tx := tx) (rl := rl) (ou := ou) (q := q) (Q := Q) hF hj hlw hL hq0 hW m (k + 1) (usc (usc sc 7203 l) 7204 u) (by omega) hX (hR.fl rfl rfl rfl) (fun sc' a1 a2 => hk sc' (Same.tr (Same.us rfl (Same.us rfl Same.rf)) a1) a2)
        rw [← e9] at e10
        exact e10
      · skip
        refine RQ.seg 3 (pc' := 46) (L' := [some (.ref 72), some (.int (iI q0)), some (.int (iI (msr (rsf nw nb W B (lwq law q0)) (rsv nw nb W B) k))), some (.int (iI (k : Int)))]) (st' := [.int (iI (k : Int)), .ref 63]) (g1 := (HW (usc (usc sc 7203 l) 7204 u) ar tx (j + 118) rl ou (otl tl j n f), q)) rfl ?_
        have hR1 : RwK nw nb W B r e n f (usc (usc sc 7203 l) 7204 u) ar := hR.fl rfl rfl rfl
        refine RQ.call rfl rfl (CallR.up (d := 2) (x_savedAtI (d := 0) (sc := usc (usc sc 7203 l) 7204 u) (ar := ar) (i := (k : Int)) hF hX hj hR1 (by omega)) (by omega)) ?_
        refine RQ.seg 3 (pc' := 9) (L' := [some (.ref 72), some (.int (iI q0)), some (.int (iI (rsv nw nb W B (k : Int)))), some (.int ((iI (k : Int)) + (iI 1)))]) (st' := []) (g1 := (HW (usc (usc sc 7203 l) 7204 u) ar tx (j + 118) rl ou (otl tl j n f), q)) rfl ?_
        refine RQ.to (L' := [some (.ref 72), some (.int (iI q0)), some (.int (iI (rsv nw nb W B (k : Int)))), some (.int (iI ((k : Int) + 1)))]) (st' := []) (by simp only [iI_add, iI_sub, iI_mul, iI_neg]) rfl ?_
        have e9 : rsv nw nb W B (k : Int) = msr (rsf nw nb W B (lwq law q0)) (rsv nw nb W B) (k + 1) := by rw [msr]; first | rw [if_pos (by omega)] | rw [if_neg (by omega)]
        have e10 := x_ms_l (K := K) (d := d) (tx := tx) (rl := rl) (ou := ou) (q := q) (Q := Q) hF hj hlw hL hq0 hW m (k + 1) (usc (usc sc 7203 l) 7204 u) (by omega) hX (hR.fl rfl rfl rfl) (fun sc' a1 a2 => hk sc' (Same.tr (Same.us rfl (Same.us rfl Same.rf)) a1) a2)
        rw [← e9] at e10
        exact e10
theorem x_mostBy {K : PK} {d : Nat} {sc : Nat → Int} {ar : Nat → Int → Int} {tx : Nat} {rl : Nat → Option Nat} {ou : Nat → Int64} {tl : List PO} {q : Nat × Nat} {j n : Nat} {f : Int → Int} {nw nb : Int} {W B : Int → Int → Int} (hF : FrOK nw nb W B) (hX : FrX (sc 303) (sc 304) (ar 5) (ar 6) (ar 7) (ar 8) (ar 10) (ar 11) (ar 12) nw nb W B) {r e : Int → Int} (hj : j < tl.length) (hR : RwK nw nb W B r e n f sc ar) {law : Int → Int} (hlw : ∀ j, 0 ≤ j → j < 4 → ar 32 j = law j) (hL : LwOK law) {q0 : Int} (hq0 : 0 ≤ q0 ∧ q0 ≤ 2) : CQ K (d + 6) 64 [.ref 72, .int (iI q0)] (HW sc ar tx (j + 118) rl ou (otl tl j n f), q) (fun rv g' => rv = some (.int (iI (msv nw nb W B law q0))) ∧ ∃ sc' ar', g' = (HW sc' ar' tx (j + 118) rl ou (otl tl j n f), q) ∧ Same [7203, 7204] sc sc' ∧ Same [74, 75, 76] ar ar' ∧ RwK nw nb W B r e n f sc' ar') := by
  have hn := hF.1
  have hm1 := hX.1
  have hm2 := hX.2.1
  obtain ⟨hk1, hT, hmo, hn5, ⟨hr, he⟩, hf⟩ := id hR
  have hB := mny_b (nw := nw) (nb := nb) (W := W) (B := B) hF.1.2.1
  have ht3 := t3_r hB
  have hsz : sc 6308 = t3 (mny nw nb W B) := hT.2.2
  refine CQ.of (own := 5) (n := 4) (ini := false) (rt := (some .int)) (cd := cd64) (by decide +kernel) rfl (by decide +kernel) rfl (Nat.le_of_ble_eq_true rfl) ?_
  refine RQ.seg 2 (pc' := 2) (L' := [some (.ref 72), some (.int (iI q0)), none, none]) (st' := [.int (iI q0), .ref 72]) (g1 := (HW sc ar tx (j + 118) rl ou (otl tl j n f), q)) rfl ?_
  refine RQ.callQ rfl rfl ((x_findBest (d := 0) hF hX hj hR hlw hL hq0).up (by omega)) (fun rv g1 hc => ?_)
  obtain ⟨rfl, ar2, rfl, ha2, hW2⟩ := hc
  have hR2 : RwK nw nb W B r e n f sc ar2 := hR.ar (ha2 65 rfl) (ha2 66 rfl) (ha2 67 rfl) (ha2 68 rfl) (ha2 69 rfl)
  have hX2 : FrX (sc 303) (sc 304) (ar2 5) (ar2 6) (ar2 7) (ar2 8) (ar2 10) (ar2 11) (ar2 12) nw nb W B := by rw [ha2 5 rfl, ha2 6 rfl, ha2 7 rfl, ha2 8 rfl, ha2 10 rfl, ha2 11 rfl, ha2 12 rfl]; exact hX
  have hlw2 : ∀ j, 0 ≤ j → j < 4 → ar2 32 j = law j := fun j h0 h1 => (congrFun (ha2 32 rfl) j).trans (hlw j h0 h1)
  refine RQ.seg 4 (pc' := 9) (L' := [some (.ref 72), some (.int (iI q0)), some (.int (iI (-1))), some (.int (iI 0))]) (st' := []) (g1 := (HW sc ar2 tx (j + 118) rl ou (otl tl j n f), q)) rfl ?_
  exact x_ms_l hF hj hlw2 hL hq0 hW2 (t3 (mny nw nb W B)).toNat 0 sc (by omega) hX2 hR2 (fun sc' a1 a2 => ⟨rfl, sc', ar2, rfl, a1, ha2, a2⟩)
