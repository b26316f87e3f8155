/-! nights of both sides, whole, by wip/tools -/
theorem up3_0 {t k : Int} (s s' h : Int → Int) : up3 t 0 s h k = up3 t 0 s' h k := by
  unfold up3
  by_cases e : t ≤ k ∧ k < t + 3
  · rw [if_pos e, if_pos e, if_neg (by omega), if_neg (by omega)]
  · rw [if_neg e, if_neg e]
def nxF2 : List Nat := scF ++ [3106, 3107]
def nxA2 : List Nat := scA ++ [37, 38, 39, 40]
def nmF2 : List Nat := scF ++ [8032, 8059]
def nmA2 : List Nat := scA ++ [92, 93, 114, 115]
theorem FrX.sn {sc sc' : Nat → Int} {ar ar' : Nat → Int → Int} {nw nb : Int} {W B : Int → Int → Int} (hs : Same nxF2 sc sc') (ha : Same nxA2 ar ar') (h : FrX (sc 303) (sc 304) (ar 5) (ar 6) (ar 7) (ar 8) (ar 10) (ar 11) (ar 12) nw nb W B) : FrX (sc' 303) (sc' 304) (ar' 5) (ar' 6) (ar' 7) (ar' 8) (ar' 10) (ar' 11) (ar' 12) nw nb W B := by
  rw [hs 303 rfl, hs 304 rfl, ha 5 rfl, ha 6 rfl, ha 7 rfl, ha 8 rfl, ha 10 rfl, ha 11 rfl, ha 12 rfl]
  exact h
theorem FrM.sn {sc sc' : Nat → Int} {ar ar' : Nat → Int → Int} {nw nb : Int} {W B : Int → Int → Int} (hs : Same nmF2 sc sc') (ha : Same nmA2 ar ar') (h : FrM (sc 8024) (sc 8025) (ar 85) (ar 86) nw nb W B) : FrM (sc' 8024) (sc' 8025) (ar' 85) (ar' 86) nw nb W B := by
  rw [hs 8024 rfl, hs 8025 rfl, ha 85 rfl, ha 86 rfl]
  exact h
theorem NtX.sm {D : SD} {sc sc' : Nat → Int} {ar ar' : Nat → Int → Int} (hs : Same scF sc sc') (ha : Same scA ar ar') (h : NtX D sc ar) : NtX D sc' ar' := by
  show NtA D (sc' 3106) (sc' 3107) (ar' 37) (ar' 38) (ar' 39) (ar' 40)
  rw [hs 3106 rfl, hs 3107 rfl, ha 37 rfl, ha 38 rfl, ha 39 rfl, ha 40 rfl]
  exact h
theorem NtM.sm {nb : Int} {D : SD} {sc sc' : Nat → Int} {ar ar' : Nat → Int → Int} (hs : Same scF sc sc') (ha : Same scA ar ar') (h : NtM nb D sc ar) : NtM nb D sc' ar' := by
  show NtB nb D (sc' 8032) (sc' 8059) (ar' 92) (ar' 93) (ar' 114) (ar' 115)
  rw [hs 8032 rfl, hs 8059 rfl, ha 92 rfl, ha 93 rfl, ha 114 rfl, ha 115 rfl]
  exact h
theorem x_putBy {K : PK} {d : Nat} {sc : Nat → Int} {ar : Nat → Int → Int} {tx oc : Nat} {rl : Nat → Option Nat} {ou : Nat → Int64} {tl : List PO} {q : Nat × Nat} {nw nb : Int} {W B : Int → Int → Int} (hF : FrOK nw nb W B) (hX : FrX (sc 303) (sc 304) (ar 5) (ar 6) (ar 7) (ar 8) (ar 10) (ar 11) (ar 12) nw nb W B) {P : Int → Int} (hmy : PtOK nw nb W B P) (hp : PlyP nw nb W B P sc ar) {law : Int → Int} (hlw : ∀ j, 0 ≤ j → j < 4 → ar 32 j = law j) (hL : LwOK law) {D : SD} (hO : NtOK nb D) (hN : NtX D sc ar) : CQ K (d + 5) 144 [.ref 0] (HW sc ar tx oc rl ou tl, q) (fun r g' => r = none ∧ ∃ sc' ar', g' = (HW sc' ar' tx oc rl ou tl, q) ∧ Same nxF sc sc' ∧ Same nxA ar ar' ∧ NtX (nst nb (sS (svn nb W B P)) (gnr nw nb W B law P) D) sc' ar') := by
  have hn := hF.1
  have hm1 := hX.1
  have hm2 := hX.2.1
  have hn1 : sc 3106 = dN D := hN.1
  have hu1 : sc 3107 = dU D := hN.2.1
  have hO1 := hO.1
  have hO2 := hO.2.1
  have hO3 := hO.2.2.1
  refine CQ.of (own := 10) (n := 3) (ini := false) (rt := none) (cd := cd144) (by decide +kernel) rfl (by decide +kernel) rfl (Nat.le_of_ble_eq_true rfl) ?_
  refine RQ.seg 2 (pc' := 4) (L' := [some (.ref 0), none, none]) (st' := [.ref 51]) (g1 := (HW sc ar tx oc rl ou tl, q)) rfl ?_
  obtain ⟨y, hS, hJ, hE, hc⟩ := x_outA (K := K) (d := d + 2) (tx := tx) (oc := oc) (rl := rl) (ou := ou) (tl := tl) (q := q) hF hX hmy hp
  have hor := ocv_r hF hmy hS hJ
  have hgo : ∀ b, 0 ≤ b → b < nb → gnx law (law 3) (ocv nb W B P (Sx sc ar y)) b = gnr nw nb W B law P b := by
    intro b h0 h1
    have e0 : pkm (ocv nb W B P (Sx sc ar y)) 0 0 = ocv nb W B P (Sx sc ar y) := by unfold pkm; omega
    have e1 := gnx_gnv (r := 0) (e := 0) hF hmy hS hJ ⟨h0, h1⟩ (by omega) (by omega) hL
    rw [e0] at e1
    rw [e1, gnv_c hF hE ⟨h0, h1⟩ law]; rfl
  refine RQ.call rfl rfl hc ?_
  refine RQ.seg 3 (pc' := 12) (L' := [some (.ref 0), some (.int (iI (ocv nb W B P (Sx sc ar y)))), none]) (st' := [.ref 31]) (g1 := (HW sc ar tx oc rl ou tl, q)) rfl ?_
  refine RQ.callQ rfl rfl ((x_open (d := 0) (by omega) (by omega)).up (by omega)) (fun rv g1 hc => ?_)
  obtain ⟨rfl, f, g, rfl, hfg⟩ := hc
  refine RQ.seg 2 (pc' := 17) (L' := [some (.ref 0), some (.int (iI (ocv nb W B P (Sx sc ar y)))), some (.int (iI 0))]) (st' := []) (g1 := (HW (usc (usc sc 3106 (sc 3106 + 1)) 3107 (min (sc 3107 + 1) 40)) (usc (usc ar 39 f) 40 g) tx oc rl ou tl, q)) rfl ?_
  refine RQ.hp (g1 := (HW (usc (usc sc 3106 (sc 3106 + 1)) 3107 (min (sc 3107 + 1) 40)) (usc (usc (usc ar 37 (ar 37)) 39 f) 40 g) tx oc rl ou tl, q)) (congrArg (fun a => (HW (usc (usc sc 3106 (sc 3106 + 1)) 3107 (min (sc 3107 + 1) 40)) a tx oc rl ou tl, q)) (show usc (usc ar 39 f) 40 g = usc (usc (usc ar 37 (ar 37)) 39 f) 40 g by funext j; unfold usc; cases hb : Nat.beq j 37 <;> first | rfl | (rw [Nat.eq_of_beq_eq_true hb]; rfl))) ?_
  refine RQ.hp (g1 := (HW (usc (usc sc 3106 (sc 3106 + 1)) 3107 (min (sc 3107 + 1) 40)) (usc (usc (usc (usc ar 37 (ar 37)) 38 (ar 38)) 39 f) 40 g) tx oc rl ou tl, q)) (congrArg (fun a => (HW (usc (usc sc 3106 (sc 3106 + 1)) 3107 (min (sc 3107 + 1) 40)) a tx oc rl ou tl, q)) (show usc (usc (usc ar 37 (ar 37)) 39 f) 40 g = usc (usc (usc (usc ar 37 (ar 37)) 38 (ar 38)) 39 f) 40 g by funext j; unfold usc; cases hb : Nat.beq j 38 <;> first | rfl | (rw [Nat.eq_of_beq_eq_true hb]; rfl))) ?_
  refine x_pb_l (sc0 := sc) (ar0 := ar) (nn := sc 3106 + 1) (uu := min (sc 3107 + 1) 40) hF hX hmy hp hL hlw (by omega) hgo hor (fun sc' ar' hs ha e1 e2 e3 e4 => ⟨rfl, sc', ar', rfl, hs, ha, NtX.st (by omega) hO hN (by rw [e1, hn1]) (by rw [e2, hu1]) e3 (by rw [hn1] at e4; exact e4)⟩) nb.toNat 0 _ _ _ _ (by omega) (fun b b0 b1 => ⟨(if_neg (by omega)).symm, (if_neg (by omega)).symm⟩) (fun k k0 k1 => ⟨(hfg k k0 k1).1.trans (up3_0 _ _ _), (hfg k k0 k1).2.trans (up3_0 _ _ _)⟩)
theorem m_pb_s {sc0 : Nat → Int} {ar0 : Nat → Int → Int} {K : PK} {d : Nat} {tx oc : Nat} {rl : Nat → Option Nat} {ou : Nat → Int64} {tl : List PO} {q : Nat × Nat} {Q : Option Value → PG → Prop} : ∀ (m : Nat) (i : Int) (f g : Int → Int) (hm : 0 ≤ i ∧ i + m = 117) (hi : (∀ k, 0 ≤ k → k < 120 → f k = (if k < i then ar0 114 (k + 3) else ar0 114 k) ∧ g k = (if k < i then ar0 115 (k + 3) else ar0 115 k))) (hk : ∀ f' g' : Int → Int, (∀ k, 0 ≤ k → k < 120 → f' k = (if k < 117 then ar0 114 (k + 3) else ar0 114 k) ∧ g' k = (if k < 117 then ar0 115 (k + 3) else ar0 115 k)) → RQ K (d + 3) 11 false none cd227 55 [some (.ref 80), some (.int (iI 117))] [] (HW sc0 (usc (usc ar0 114 f') 115 g') tx oc rl ou tl, q) Q), RQ K (d + 3) 11 false none cd227 15 [some (.ref 80), some (.int (iI i))] [] (HW sc0 (usc (usc ar0 114 f) 115 g) tx oc rl ou tl, q) Q
  | 0, i, f, g, hm, hi, hk => by
    refine RQ.seg 2 (pc' := 18) (L' := [some (.ref 80), some (.int (iI i))]) (st' := [.int (iI 117), .int (iI i)]) (g1 := (HW sc0 (usc (usc ar0 114 f) 115 g) tx oc rl ou tl, q)) rfl ?_
    refine RQ.if2 (a := i) (b := 117) rfl rfl rfl rfl (by omega) (by omega) (fun _ => ?_) (fun (q : ¬ 117 ≤ i) => absurd (show 117 ≤ i from by omega) q)
    obtain rfl : i = 117 := by omega
    exact hk f g hi
  | m + 1, i, f, g, hm, hi, hk => by
    refine RQ.seg 2 (pc' := 18) (L' := [some (.ref 80), some (.int (iI i))]) (st' := [.int (iI 117), .int (iI i)]) (g1 := (HW sc0 (usc (usc ar0 114 f) 115 g) tx oc rl ou tl, q)) rfl ?_
    refine RQ.if2 (a := i) (b := 117) rfl rfl rfl rfl (by omega) (by omega) (fun (q : 117 ≤ i) => absurd q (show ¬ 117 ≤ i from by omega)) (fun _ => ?_)
    refine RQ.seg 8 (pc' := 33) (L' := [some (.ref 80), some (.int (iI i))]) (st' := [.int ((iI i) + (iI 3)), .ref 114, .int (iI i), .ref 114]) (g1 := (HW sc0 (usc (usc ar0 114 f) 115 g) tx oc rl ou tl, q)) rfl ?_
    refine RQ.iald (z := (i + 3)) rfl (by simp only [iI_add, iI_sub, iI_mul, iI_neg]) rfl (by omega) (by decide) ?_
    refine RQ.iast (z := i) (v := (f (i + 3))) (g1 := (HW sc0 (usc (usc ar0 114 (usz f i (f (i + 3)))) 115 g) tx oc rl ou tl, q)) rfl rfl rfl rfl (by omega) (by decide) (HWa_114 (by funext j; unfold usc; cases hb : Nat.beq j 114 <;> first | rfl | (rw [Nat.eq_of_beq_eq_true hb]; rfl))) ?_
    refine RQ.seg 8 (pc' := 47) (L' := [some (.ref 80), some (.int (iI i))]) (st' := [.int ((iI i) + (iI 3)), .ref 115, .int (iI i), .ref 115]) (g1 := (HW sc0 (usc (usc ar0 114 (usz f i (f (i + 3)))) 115 g) tx oc rl ou tl, q)) rfl ?_
    refine RQ.iald (z := (i + 3)) rfl (by simp only [iI_add, iI_sub, iI_mul, iI_neg]) rfl (by omega) (by decide) ?_
    refine RQ.iast (z := i) (v := (g (i + 3))) (g1 := (HW sc0 (usc (usc ar0 114 (usz f i (f (i + 3)))) 115 (usz g i (g (i + 3)))) tx oc rl ou tl, q)) rfl rfl rfl rfl (by omega) (by decide) (HWa_115 (by funext j; unfold usc; cases hb : Nat.beq j 115 <;> first | rfl | (rw [Nat.eq_of_beq_eq_true hb]; rfl))) ?_
    refine RQ.seg 2 (pc' := 15) (L' := [some (.ref 80), some (.int ((iI i) + (iI 1)))]) (st' := []) (g1 := (HW sc0 (usc (usc ar0 114 (usz f i (f (i + 3)))) 115 (usz g i (g (i + 3)))) tx oc rl ou tl, q)) rfl ?_
    refine RQ.to (L' := [some (.ref 80), some (.int (iI (i + 1)))]) (st' := []) (by simp only [iI_add, iI_sub, iI_mul, iI_neg]) rfl ?_
    refine m_pb_s m (i + 1) _ _ (by omega) (fun k k0 k1 => ?_) hk
    have e1 := hi k k0 k1; have e2 := hi (i + 3) (by omega) (by omega)
    rw [if_neg (by omega), if_neg (by omega)] at e2
    by_cases e : k = i
    · subst e; rw [usz_s, usz_s, if_pos (by omega), if_pos (by omega)]; exact e2
    · rw [usz_n e, usz_n e]; by_cases e3 : k < i
      · rw [if_pos e3, if_pos e3] at e1; rw [if_pos (by omega), if_pos (by omega)]; exact e1
      · rw [if_neg e3, if_neg e3] at e1; rw [if_neg (by omega), if_neg (by omega)]; exact e1
theorem m_pb_l {sc0 : Nat → Int} {ar0 : Nat → Int → Int} {K : PK} {d : Nat} {tx oc : Nat} {rl : Nat → Option Nat} {ou : Nat → Int64} {tl : List PO} {q : Nat × Nat} {Q : Option Value → PG → Prop} {nw nb : Int} {W B : Int → Int → Int} (hF : FrOK nw nb W B) {law P : Int → Int} {D : SD} (hJ : JdgP nw nb W B P law sc0 ar0) (hM : FrM (sc0 8024) (sc0 8025) (ar0 85) (ar0 86) nw nb W B) {u : Int} {h1 h2 : Int → Int} (hu : 0 ≤ u ∧ u ≤ 39) (hd : sc0 8032 = dN D) (hk : ∀ f92 f93 f114 f115 : Int → Int, (∀ b, 0 ≤ b → b < 3 → f92 b = (if b < nb then ar0 92 b + sS (svn nb W B P) b else ar0 92 b) ∧ f93 b = (if b < nb then ar0 93 b + gnr nw nb W B law P b else ar0 93 b)) → (∀ k, 0 ≤ k → k < 120 → f114 k = (if 3 * u ≤ k ∧ k < 3 * u + nb then sS (svn nb W B P) (k - 3 * u) else h1 k) ∧ f115 k = (if 3 * u ≤ k ∧ k < 3 * u + nb then gnr nw nb W B law P (k - 3 * u) else h2 k)) → Q none (HW (usc (usc sc0 8032 (dN D + 1)) 8059 (u + 1)) (usc (usc (usc (usc ar0 114 f114) 115 f115) 92 f92) 93 f93) tx oc rl ou tl, q)) : ∀ (m n : Nat) (f92 f93 f114 f115 : Int → Int) (hm : (n : Int) + m = nb) (hi : (∀ b, 0 ≤ b → b < 3 → f92 b = (if b < (n : Int) then ar0 92 b + sS (svn nb W B P) b else ar0 92 b) ∧ f93 b = (if b < (n : Int) then ar0 93 b + gnr nw nb W B law P b else ar0 93 b))) (hi2 : (∀ k, 0 ≤ k → k < 120 → f114 k = (if 3 * u ≤ k ∧ k < 3 * u + (n : Int) then sS (svn nb W B P) (k - 3 * u) else h1 k) ∧ f115 k = (if 3 * u ≤ k ∧ k < 3 * u + (n : Int) then gnr nw nb W B law P (k - 3 * u) else h2 k))), RQ K (d + 3) 11 false none cd227 67 [some (.ref 80), some (.int (iI (n : Int)))] [] (HW (usc sc0 8059 u) (usc (usc (usc (usc ar0 114 f114) 115 f115) 92 f92) 93 f93) tx oc rl ou tl, q) Q
  | 0, n, f92, f93, f114, f115, hm, hi, hi2 => by
    have hn := hF.1
    have hm1 := hM.1
    have hm2 := hM.2.1
    refine RQ.seg 3 (pc' := 72) (L' := [some (.ref 80), some (.int (iI (n : Int)))]) (st' := [.int (iI (sc0 8025)), .int (iI (n : Int))]) (g1 := (HW (usc sc0 8059 u) (usc (usc (usc (usc ar0 114 f114) 115 f115) 92 f92) 93 f93) tx oc rl ou tl, q)) rfl ?_
    refine RQ.if2 (a := (n : Int)) (b := (sc0 8025)) rfl rfl rfl rfl (by omega) (by omega) (fun _ => ?_) (fun (q : ¬ sc0 8025 ≤ (n : Int)) => absurd (show sc0 8025 ≤ (n : Int) from by omega) q)
    refine RQ.seg 5 (pc' := 156) (L' := [some (.ref 80), some (.int (iI (n : Int)))]) (st' := [.int ((iI u) + (iI 1)), .ref 80]) (g1 := (HW (usc sc0 8059 u) (usc (usc (usc (usc ar0 114 f114) 115 f115) 92 f92) 93 f93) tx oc rl ou tl, q)) rfl ?_
    refine RQ.to (L' := [some (.ref 80), some (.int (iI (n : Int)))]) (st' := [.int (iI (u + 1)), .ref 80]) rfl (by simp only [iI_add, iI_sub, iI_mul, iI_neg]) ?_
    refine RQ.seg 4 (pc' := 164) (L' := [some (.ref 80), some (.int (iI (n : Int)))]) (st' := [.int (iI (sc0 8032)), .ref 80]) (g1 := (HW (usc sc0 8059 (u + 1)) (usc (usc (usc (usc ar0 114 f114) 115 f115) 92 f92) 93 f93) tx oc rl ou tl, q)) rfl ?_
    refine RQ.to (L' := [some (.ref 80), some (.int (iI (n : Int)))]) (st' := [.int (iI (dN D)), .ref 80]) rfl (by rw [show sc0 8032 = dN D from hd]) ?_
    refine RQ.seg 2 (pc' := 166) (L' := [some (.ref 80), some (.int (iI (n : Int)))]) (st' := [.int ((iI (dN D)) + (iI 1)), .ref 80]) (g1 := (HW (usc sc0 8059 (u + 1)) (usc (usc (usc (usc ar0 114 f114) 115 f115) 92 f92) 93 f93) tx oc rl ou tl, q)) rfl ?_
    refine RQ.to (L' := [some (.ref 80), some (.int (iI (n : Int)))]) (st' := [.int (iI (dN D + 1)), .ref 80]) rfl (by simp only [iI_add, iI_sub, iI_mul, iI_neg]) ?_
    refine RQ.seg 1 (pc' := 169) (L' := [some (.ref 80), some (.int (iI (n : Int)))]) (st' := []) (g1 := (HW (usc (usc sc0 8032 (dN D + 1)) 8059 (u + 1)) (usc (usc (usc (usc ar0 114 f114) 115 f115) 92 f92) 93 f93) tx oc rl ou tl, q)) rfl ?_
    refine RQ.ret rfl rfl ?_
    obtain rfl : nb = (n : Int) := by omega
    exact hk _ _ _ _ hi hi2
  | m + 1, n, f92, f93, f114, f115, hm, hi, hi2 => by
    have hn := hF.1
    have hm1 := hM.1
    have hm2 := hM.2.1
    refine RQ.seg 3 (pc' := 72) (L' := [some (.ref 80), some (.int (iI (n : Int)))]) (st' := [.int (iI (sc0 8025)), .int (iI (n : Int))]) (g1 := (HW (usc sc0 8059 u) (usc (usc (usc (usc ar0 114 f114) 115 f115) 92 f92) 93 f93) tx oc rl ou tl, q)) rfl ?_
    refine RQ.if2 (a := (n : Int)) (b := (sc0 8025)) rfl rfl rfl rfl (by omega) (by omega) (fun (q : sc0 8025 ≤ (n : Int)) => absurd q (show ¬ sc0 8025 ≤ (n : Int) from by omega)) (fun _ => ?_)
    refine RQ.seg 11 (pc' := 92) (L' := [some (.ref 80), some (.int (iI (n : Int)))]) (st' := [.int (iI (n : Int)), .ref 99, .int (((iI 3) * (iI u)) + (iI (n : Int))), .ref 114]) (g1 := (HW (usc sc0 8059 u) (usc (usc (usc (usc ar0 114 f114) 115 f115) 92 f92) 93 f93) tx oc rl ou tl, q)) rfl ?_
    refine RQ.ialdv (z := (n : Int)) (v := (sS (svn nb W B P) (n : Int))) rfl rfl rfl (by omega) (by decide) (hJ.2.1.2.2.1 (n : Int) (by omega) (by omega)) ?_
    refine RQ.iast (z := (3 * u + (n : Int))) (v := (sS (svn nb W B P) (n : Int))) (g1 := (HW (usc sc0 8059 u) (usc (usc (usc (usc ar0 114 (usz f114 (3 * u + (n : Int)) (sS (svn nb W B P) (n : Int)))) 115 f115) 92 f92) 93 f93) tx oc rl ou tl, q)) rfl (by simp only [iI_add, iI_sub, iI_mul, iI_neg]) rfl rfl (by omega) (by decide) (HWa_114 (by funext j; unfold usc; cases hb : Nat.beq j 114 <;> first | rfl | (rw [Nat.eq_of_beq_eq_true hb]; rfl))) ?_
    refine RQ.seg 11 (pc' := 111) (L' := [some (.ref 80), some (.int (iI (n : Int)))]) (st' := [.int (iI (n : Int)), .ref 100, .int (((iI 3) * (iI u)) + (iI (n : Int))), .ref 115]) (g1 := (HW (usc sc0 8059 u) (usc (usc (usc (usc ar0 114 (usz f114 (3 * u + (n : Int)) (sS (svn nb W B P) (n : Int)))) 115 f115) 92 f92) 93 f93) tx oc rl ou tl, q)) rfl ?_
    refine RQ.ialdv (z := (n : Int)) (v := (gnr nw nb W B law P (n : Int))) rfl rfl rfl (by omega) (by decide) (hJ.2.2.2.2.2 (n : Int) (by omega) (by omega)) ?_
    refine RQ.iast (z := (3 * u + (n : Int))) (v := (gnr nw nb W B law P (n : Int))) (g1 := (HW (usc sc0 8059 u) (usc (usc (usc (usc ar0 114 (usz f114 (3 * u + (n : Int)) (sS (svn nb W B P) (n : Int)))) 115 (usz f115 (3 * u + (n : Int)) (gnr nw nb W B law P (n : Int)))) 92 f92) 93 f93) tx oc rl ou tl, q)) rfl (by simp only [iI_add, iI_sub, iI_mul, iI_neg]) rfl rfl (by omega) (by decide) (HWa_115 (by funext j; unfold usc; cases hb : Nat.beq j 115 <;> first | rfl | (rw [Nat.eq_of_beq_eq_true hb]; rfl))) ?_
    refine RQ.seg 4 (pc' := 119) (L' := [some (.ref 80), some (.int (iI (n : Int)))]) (st' := [.int (iI (n : Int)), .ref 92, .int (iI (n : Int)), .ref 92]) (g1 := (HW (usc sc0 8059 u) (usc (usc (usc (usc ar0 114 (usz f114 (3 * u + (n : Int)) (sS (svn nb W B P) (n : Int)))) 115 (usz f115 (3 * u + (n : Int)) (gnr nw nb W B law P (n : Int)))) 92 f92) 93 f93) tx oc rl ou tl, q)) rfl ?_
    refine RQ.iald (z := (n : Int)) rfl rfl rfl (by omega) (by decide) ?_
    refine RQ.seg 3 (pc' := 125) (L' := [some (.ref 80), some (.int (iI (n : Int)))]) (st' := [.int (iI (n : Int)), .ref 99, .int (iI (f92 (n : Int))), .int (iI (n : Int)), .ref 92]) (g1 := (HW (usc sc0 8059 u) (usc (usc (usc (usc ar0 114 (usz f114 (3 * u + (n : Int)) (sS (svn nb W B P) (n : Int)))) 115 (usz f115 (3 * u + (n : Int)) (gnr nw nb W B law P (n : Int)))) 92 f92) 93 f93) tx oc rl ou tl, q)) rfl ?_
    refine RQ.ialdv (z := (n : Int)) (v := (sS (svn nb W B P) (n : Int))) rfl rfl rfl (by omega) (by decide) (hJ.2.1.2.2.1 (n : Int) (by omega) (by omega)) ?_
    refine RQ.seg 1 (pc' := 127) (L' := [some (.ref 80), some (.int (iI (n : Int)))]) (st' := [.int ((iI (f92 (n : Int))) + (iI (sS (svn nb W B P) (n : Int)))), .int (iI (n : Int)), .ref 92]) (g1 := (HW (usc sc0 8059 u) (usc (usc (usc (usc ar0 114 (usz f114 (3 * u + (n : Int)) (sS (svn nb W B P) (n : Int)))) 115 (usz f115 (3 * u + (n : Int)) (gnr nw nb W B law P (n : Int)))) 92 f92) 93 f93) tx oc rl ou tl, q)) rfl ?_
    refine RQ.iast (z := (n : Int)) (v := (f92 (n : Int) + (sS (svn nb W B P) (n : Int)))) (g1 := (HW (usc sc0 8059 u) (usc (usc (usc (usc ar0 114 (usz f114 (3 * u + (n : Int)) (sS (svn nb W B P) (n : Int)))) 115 (usz f115 (3 * u + (n : Int)) (gnr nw nb W B law P (n : Int)))) 92 (usz f92 (n : Int) (f92 (n : Int) + (sS (svn nb W B P) (n : Int))))) 93 f93) tx oc rl ou tl, q)) rfl rfl (by simp only [iI_add, iI_sub, iI_mul, iI_neg]) rfl (by omega) (by decide) (HWa_92 (by funext j; unfold usc; cases hb : Nat.beq j 92 <;> first | rfl | (rw [Nat.eq_of_beq_eq_true hb]; rfl))) ?_
    refine RQ.seg 4 (pc' := 134) (L' := [some (.ref 80), some (.int (iI (n : Int)))]) (st' := [.int (iI (n : Int)), .ref 93, .int (iI (n : Int)), .ref 93]) (g1 := (HW (usc sc0 8059 u) (usc (usc (usc (usc ar0 114 (usz f114 (3 * u + (n : Int)) (sS (svn nb W B P) (n : Int)))) 115 (usz f115 (3 * u + (n : Int)) (gnr nw nb W B law P (n : Int)))) 92 (usz f92 (n : Int) (f92 (n : Int) + (sS (svn nb W B P) (n : Int))))) 93 f93) tx oc rl ou tl, q)) rfl ?_
    refine RQ.iald (z := (n : Int)) rfl rfl rfl (by omega) (by decide) ?_
    refine RQ.seg 3 (pc' := 140) (L' := [some (.ref 80), some (.int (iI (n : Int)))]) (st' := [.int (iI (n : Int)), .ref 100, .int (iI (f93 (n : Int))), .int (iI (n : Int)), .ref 93]) (g1 := (HW (usc sc0 8059 u) (usc (usc (usc (usc ar0 114 (usz f114 (3 * u + (n : Int)) (sS (svn nb W B P) (n : Int)))) 115 (usz f115 (3 * u + (n : Int)) (gnr nw nb W B law P (n : Int)))) 92 (usz f92 (n : Int) (f92 (n : Int) + (sS (svn nb W B P) (n : Int))))) 93 f93) tx oc rl ou tl, q)) rfl ?_
    refine RQ.ialdv (z := (n : Int)) (v := (gnr nw nb W B law P (n : Int))) rfl rfl rfl (by omega) (by decide) (hJ.2.2.2.2.2 (n : Int) (by omega) (by omega)) ?_
    refine RQ.seg 1 (pc' := 142) (L' := [some (.ref 80), some (.int (iI (n : Int)))]) (st' := [.int ((iI (f93 (n : Int))) + (iI (gnr nw nb W B law P (n : Int)))), .int (iI (n : Int)), .ref 93]) (g1 := (HW (usc sc0 8059 u) (usc (usc (usc (usc ar0 114 (usz f114 (3 * u + (n : Int)) (sS (svn nb W B P) (n : Int)))) 115 (usz f115 (3 * u + (n : Int)) (gnr nw nb W B law P (n : Int)))) 92 (usz f92 (n : Int) (f92 (n : Int) + (sS (svn nb W B P) (n : Int))))) 93 f93) tx oc rl ou tl, q)) rfl ?_
    refine RQ.iast (z := (n : Int)) (v := (f93 (n : Int) + (gnr nw nb W B law P (n : Int)))) (g1 := (HW (usc sc0 8059 u) (usc (usc (usc (usc ar0 114 (usz f114 (3 * u + (n : Int)) (sS (svn nb W B P) (n : Int)))) 115 (usz f115 (3 * u + (n : Int)) (gnr nw nb W B law P (n : Int)))) 92 (usz f92 (n : Int) (f92 (n : Int) + (sS (svn nb W B P) (n : Int))))) 93 (usz f93 (n : Int) (f93 (n : Int) + (gnr nw nb W B law P (n : Int))))) tx oc rl ou tl, q)) rfl rfl (by simp only [iI_add, iI_sub, iI_mul, iI_neg]) rfl (by omega) (by decide) (HWa_93 (by funext j; unfold usc; cases hb : Nat.beq j 93 <;> first | rfl | (rw [Nat.eq_of_beq_eq_true hb]; rfl))) ?_
    refine RQ.seg 2 (pc' := 67) (L' := [some (.ref 80), some (.int ((iI (n : Int)) + (iI 1)))]) (st' := []) (g1 := (HW (usc sc0 8059 u) (usc (usc (usc (usc ar0 114 (usz f114 (3 * u + (n : Int)) (sS (svn nb W B P) (n : Int)))) 115 (usz f115 (3 * u + (n : Int)) (gnr nw nb W B law P (n : Int)))) 92 (usz f92 (n : Int) (f92 (n : Int) + (sS (svn nb W B P) (n : Int))))) 93 (usz f93 (n : Int) (f93 (n : Int) + (gnr nw nb W B law P (n : Int))))) tx oc rl ou tl, q)) rfl ?_
    refine RQ.to (L' := [some (.ref 80), some (.int (iI ((n : Int) + 1)))]) (st' := []) (by simp only [iI_add, iI_sub, iI_mul, iI_neg]) rfl ?_
    refine m_pb_l hF hJ hM hu hd hk m (n + 1) _ _ _ _ (by omega) (fun b b0 b1 => ?_) (fun k k0 k1 => ?_)
    · have e9 := hi b b0 b1
      by_cases e : b = (n : Int)
      · subst e; rw [if_neg (by omega), if_neg (by omega)] at e9; rw [usz_s, usz_s, if_pos (by omega), if_pos (by omega), e9.1, e9.2]; exact ⟨rfl, rfl⟩
      · rw [usz_n e, usz_n e]; by_cases e2 : b < (n : Int)
        · rw [if_pos e2, if_pos e2] at e9; rw [if_pos (by omega), if_pos (by omega)]; exact e9
        · rw [if_neg e2, if_neg e2] at e9; rw [if_neg (by omega), if_neg (by omega)]; exact e9
    · have e9 := hi2 k k0 k1
      by_cases e : k = 3 * u + (n : Int)
      · subst e; rw [usz_s, usz_s, if_pos (by omega), if_pos (by omega), show 3 * u + (n : Int) - 3 * u = (n : Int) by omega]; exact ⟨rfl, rfl⟩
      · rw [usz_n e, usz_n e]; by_cases e2 : 3 * u ≤ k ∧ k < 3 * u + (n : Int)
        · rw [if_pos e2, if_pos e2] at e9; rw [if_pos (by omega), if_pos (by omega)]; exact e9
        · rw [if_neg e2, if_neg e2] at e9; rw [if_neg (by omega), if_neg (by omega)]; exact e9
theorem m_putBy {K : PK} {d : Nat} {sc : Nat → Int} {ar : Nat → Int → Int} {tx oc : Nat} {rl : Nat → Option Nat} {ou : Nat → Int64} {tl : List PO} {q : Nat × Nat} {nw nb : Int} {W B : Int → Int → Int} (hF : FrOK nw nb W B) (hM : FrM (sc 8024) (sc 8025) (ar 85) (ar 86) nw nb W B) {P : Int → Int} (hPu : ∀ b, 0 ≤ b → b < nb → ar 96 b = P b) (hmy : PtOK nw nb W B P) {law : Int → Int} (hlw : ∀ j, 0 ≤ j → j < 4 → ar 87 j = law j) (hL : LwOK law) {D : SD} (hO : NtOK nb D) (hN : NtM nb D sc ar) : CQ K (d + 4) 227 [.ref 80] (HW sc ar tx oc rl ou tl, q) (fun r g' => r = none ∧ ∃ sc' ar', g' = (HW sc' ar' tx oc rl ou tl, q) ∧ Same nmF sc sc' ∧ Same nmA ar ar' ∧ NtM nb (nst nb (sS (svn nb W B P)) (gnr nw nb W B law P) D) sc' ar') := by
  have hn := hF.1
  have hm1 := hM.1
  have hm2 := hM.2.1
  have hO1 := hO.1
  have hO2 := hO.2.1
  have hO3 := hO.2.2.1
  refine CQ.of (own := 11) (n := 2) (ini := false) (rt := none) (cd := cd227) (by decide +kernel) rfl (by decide +kernel) rfl (Nat.le_of_ble_eq_true rfl) ?_
  refine RQ.seg 1 (pc' := 1) (L' := [some (.ref 80), none]) (st' := [.ref 80]) (g1 := (HW sc ar tx oc rl ou tl, q)) rfl ?_
  refine RQ.callQ rfl rfl (m_judgeA (sc := sc) (ar := ar) hF hM hPu hmy hlw hL) (fun rv g1 hc => ?_)
  obtain ⟨rfl, sc1, ar1, rfl, hJ, hs1, ha1⟩ := hc
  have hM1 := hM.sm (hs1.w (l' := scF) rfl) (ha1.w (l' := scA) rfl)
  have hu1 : sc1 8059 = dU D := (hs1 8059 rfl).trans hN.2.1
  have hd1 : sc1 8032 = dN D := (hs1 8032 rfl).trans hN.1
  refine RQ.seg 2 (pc' := 8) (L' := [some (.ref 80), none]) (st' := [.int (iI (sc1 8059))]) (g1 := (HW sc1 ar1 tx oc rl ou tl, q)) rfl ?_
  refine RQ.to (L' := [some (.ref 80), none]) (st' := [.int (iI (dU D))]) rfl (by rw [show sc1 8059 = dU D from hu1]) ?_
  refine RQ.seg 1 (pc' := 10) (L' := [some (.ref 80), none]) (st' := [.int (iI 40), .int (iI (dU D))]) (g1 := (HW sc1 ar1 tx oc rl ou tl, q)) rfl ?_
  refine RQ.if2 (a := (dU D)) (b := 40) rfl rfl rfl rfl (by omega) (by omega) (fun (h1 : dU D ≠ 40) => ?_) (fun (h1 : ¬ dU D ≠ 40) => ?_)
  · skip
    refine RQ.seg 2 (pc' := 67) (L' := [some (.ref 80), some (.int (iI 0))]) (st' := []) (g1 := (HW sc1 ar1 tx oc rl ou tl, q)) rfl ?_
    refine RQ.hp (g1 := (HW (usc sc1 8059 (sc1 8059)) ar1 tx oc rl ou tl, q)) (HW_e (usc_id sc1 8059).symm rfl) ?_
    refine RQ.hp (g1 := (HW (usc sc1 8059 (sc1 8059)) (usc ar1 92 (ar1 92)) tx oc rl ou tl, q)) (congrArg (fun a => (HW (usc sc1 8059 (sc1 8059)) a tx oc rl ou tl, q)) (show ar1 = usc ar1 92 (ar1 92) by funext j; unfold usc; cases hb : Nat.beq j 92 <;> first | rfl | (rw [Nat.eq_of_beq_eq_true hb]; rfl))) ?_
    refine RQ.hp (g1 := (HW (usc sc1 8059 (sc1 8059)) (usc (usc ar1 92 (ar1 92)) 93 (ar1 93)) tx oc rl ou tl, q)) (congrArg (fun a => (HW (usc sc1 8059 (sc1 8059)) a tx oc rl ou tl, q)) (show usc ar1 92 (ar1 92) = usc (usc ar1 92 (ar1 92)) 93 (ar1 93) by funext j; unfold usc; cases hb : Nat.beq j 93 <;> first | rfl | (rw [Nat.eq_of_beq_eq_true hb]; rfl))) ?_
    refine RQ.hp (g1 := (HW (usc sc1 8059 (sc1 8059)) (usc (usc (usc ar1 114 (ar1 114)) 92 (ar1 92)) 93 (ar1 93)) tx oc rl ou tl, q)) (congrArg (fun a => (HW (usc sc1 8059 (sc1 8059)) a tx oc rl ou tl, q)) (show usc (usc ar1 92 (ar1 92)) 93 (ar1 93) = usc (usc (usc ar1 114 (ar1 114)) 92 (ar1 92)) 93 (ar1 93) by funext j; unfold usc; cases hb : Nat.beq j 114 <;> first | rfl | (rw [Nat.eq_of_beq_eq_true hb]; rfl))) ?_
    refine RQ.hp (g1 := (HW (usc sc1 8059 (sc1 8059)) (usc (usc (usc (usc ar1 114 (ar1 114)) 115 (ar1 115)) 92 (ar1 92)) 93 (ar1 93)) tx oc rl ou tl, q)) (congrArg (fun a => (HW (usc sc1 8059 (sc1 8059)) a tx oc rl ou tl, q)) (show usc (usc (usc ar1 114 (ar1 114)) 92 (ar1 92)) 93 (ar1 93) = usc (usc (usc (usc ar1 114 (ar1 114)) 115 (ar1 115)) 92 (ar1 92)) 93 (ar1 93) by funext j; unfold usc; cases hb : Nat.beq j 115 <;> first | rfl | (rw [Nat.eq_of_beq_eq_true hb]; rfl))) ?_
    rw [hu1]
    refine m_pb_l (sc0 := sc1) (ar0 := ar1) (u := dU D) (h1 := ar1 114) (h2 := ar1 115) hF hJ hM1 (by omega) hd1 (fun f92 f93 f114 f115 e3 e4 => ⟨rfl, _, _, rfl, (Same.tr (hs1.w rfl) (by repeat (first | exact Same.rf | refine Same.us rfl ?_))), (Same.tr (ha1.w rfl) (by repeat (first | exact Same.rf | refine Same.us rfl ?_))), NtM.st (u := dU D) (h1 := ar1 114) (h2 := ar1 115) (by omega) hO hN (by omega) ?_ rfl rfl ?_ e4⟩) nb.toNat 0 _ _ _ _ (by omega) (fun b b0 b1 => ⟨(if_neg (by omega)).symm, (if_neg (by omega)).symm⟩) (fun k k0 k1 => ⟨(if_neg (by omega)).symm, (if_neg (by omega)).symm⟩)
    · intro k k0 k1; rw [if_neg (by omega), if_neg (by omega), ha1 114 rfl, ha1 115 rfl]; exact ⟨rfl, rfl⟩
    · intro b b0 b1; have e5 := e3 b b0 b1; rw [ha1 92 rfl, ha1 93 rfl] at e5; exact e5
  · skip
    refine RQ.seg 2 (pc' := 15) (L' := [some (.ref 80), some (.int (iI 0))]) (st' := []) (g1 := (HW sc1 ar1 tx oc rl ou tl, q)) rfl ?_
    refine RQ.hp (g1 := (HW sc1 (usc ar1 114 (ar1 114)) tx oc rl ou tl, q)) (congrArg (fun a => (HW sc1 a tx oc rl ou tl, q)) (show ar1 = usc ar1 114 (ar1 114) by funext j; unfold usc; cases hb : Nat.beq j 114 <;> first | rfl | (rw [Nat.eq_of_beq_eq_true hb]; rfl))) ?_
    refine RQ.hp (g1 := (HW sc1 (usc (usc ar1 114 (ar1 114)) 115 (ar1 115)) tx oc rl ou tl, q)) (congrArg (fun a => (HW sc1 a tx oc rl ou tl, q)) (show usc ar1 114 (ar1 114) = usc (usc ar1 114 (ar1 114)) 115 (ar1 115) by funext j; unfold usc; cases hb : Nat.beq j 115 <;> first | rfl | (rw [Nat.eq_of_beq_eq_true hb]; rfl))) ?_
    refine m_pb_s (sc0 := sc1) (ar0 := ar1) 117 0 (ar1 114) (ar1 115) (by omega) (fun k k0 k1 => ⟨(if_neg (by omega)).symm, (if_neg (by omega)).symm⟩) (fun f g hfg => ?_)
    refine RQ.seg 3 (pc' := 60) (L' := [some (.ref 80), some (.int (iI 117))]) (st' := [.int (iI (sc1 8059)), .ref 80]) (g1 := (HW sc1 (usc (usc ar1 114 f) 115 g) tx oc rl ou tl, q)) rfl ?_
    refine RQ.to (L' := [some (.ref 80), some (.int (iI 117))]) (st' := [.int (iI (dU D)), .ref 80]) rfl (by rw [show sc1 8059 = dU D from hu1]) ?_
    refine RQ.seg 2 (pc' := 62) (L' := [some (.ref 80), some (.int (iI 117))]) (st' := [.int ((iI (dU D)) - (iI 1)), .ref 80]) (g1 := (HW sc1 (usc (usc ar1 114 f) 115 g) tx oc rl ou tl, q)) rfl ?_
    refine RQ.to (L' := [some (.ref 80), some (.int (iI 117))]) (st' := [.int (iI (dU D - 1)), .ref 80]) rfl (by simp only [iI_add, iI_sub, iI_mul, iI_neg]) ?_
    refine RQ.seg 3 (pc' := 67) (L' := [some (.ref 80), some (.int (iI 0))]) (st' := []) (g1 := (HW (usc sc1 8059 (dU D - 1)) (usc (usc ar1 114 f) 115 g) tx oc rl ou tl, q)) rfl ?_
    refine RQ.hp (g1 := (HW (usc sc1 8059 (dU D - 1)) (usc (usc (usc ar1 114 f) 115 g) 92 (ar1 92)) tx oc rl ou tl, q)) (congrArg (fun a => (HW (usc sc1 8059 (dU D - 1)) a tx oc rl ou tl, q)) (show usc (usc ar1 114 f) 115 g = usc (usc (usc ar1 114 f) 115 g) 92 (ar1 92) by funext j; unfold usc; cases hb : Nat.beq j 92 <;> first | rfl | (rw [Nat.eq_of_beq_eq_true hb]; rfl))) ?_
    refine RQ.hp (g1 := (HW (usc sc1 8059 (dU D - 1)) (usc (usc (usc (usc ar1 114 f) 115 g) 92 (ar1 92)) 93 (ar1 93)) tx oc rl ou tl, q)) (congrArg (fun a => (HW (usc sc1 8059 (dU D - 1)) a tx oc rl ou tl, q)) (show usc (usc (usc ar1 114 f) 115 g) 92 (ar1 92) = usc (usc (usc (usc ar1 114 f) 115 g) 92 (ar1 92)) 93 (ar1 93) by funext j; unfold usc; cases hb : Nat.beq j 93 <;> first | rfl | (rw [Nat.eq_of_beq_eq_true hb]; rfl))) ?_
    refine m_pb_l (sc0 := sc1) (ar0 := ar1) (u := dU D - 1) (h1 := f) (h2 := g) hF hJ hM1 (by omega) hd1 (fun f92 f93 f114 f115 e3 e4 => ⟨rfl, _, _, rfl, (Same.tr (hs1.w rfl) (by repeat (first | exact Same.rf | refine Same.us rfl ?_))), (Same.tr (ha1.w rfl) (by repeat (first | exact Same.rf | refine Same.us rfl ?_))), NtM.st (u := dU D - 1) (h1 := f) (h2 := g) (by omega) hO hN (by omega) ?_ rfl rfl ?_ e4⟩) nb.toNat 0 _ _ _ _ (by omega) (fun b b0 b1 => ⟨(if_neg (by omega)).symm, (if_neg (by omega)).symm⟩) (fun k k0 k1 => ⟨(if_neg (by omega)).symm, (if_neg (by omega)).symm⟩)
    · intro k k0 k1; have e7 := hfg k k0 (by omega); rw [if_pos k1, if_pos k1, ha1 114 rfl, ha1 115 rfl] at e7; rw [if_pos (by omega), if_pos (by omega)]; exact e7
    · intro b b0 b1; have e5 := e3 b b0 b1; rw [ha1 92 rfl, ha1 93 rfl] at e5; exact e5
theorem m_night {K : PK} {d : Nat} {sc : Nat → Int} {ar : Nat → Int → Int} {tx oc : Nat} {rl : Nat → Option Nat} {ou : Nat → Int64} {tl : List PO} {q : Nat × Nat} {row : Int} {nw nb : Int} {W B : Int → Int → Int} (hF : FrOK nw nb W B) (hM : FrM (sc 8024) (sc 8025) (ar 85) (ar 86) nw nb W B) (hP : PMx nw nb W B (ar 94) (ar 95)) {law : Int → Int} (hlw : ∀ j, 0 ≤ j → j < 4 → ar 87 j = law j) (hL : LwOK law) {D : SD} (hO : NtOK nb D) (hN : NtM nb D sc ar) (rrow : -2147483648 ≤ row ∧ row < 2147483648) : CQ K (d + 5) 228 [.ref 80, .int (iI row)] (HW sc ar tx oc rl ou tl, q) (fun r g' => r = some (.int (iI (if rok nw nb W B row then (dN D + 1) else (-1)))) ∧ ∃ sc' ar', g' = (HW sc' ar' tx oc rl ou tl, q) ∧ Same nmF2 sc sc' ∧ Same nmA2 ar ar' ∧ NtM nb (if rok nw nb W B row then nst nb (sS (svn nb W B (prow nb row))) (gnr nw nb W B law (prow nb row)) D else D) sc' ar') := by
  have hn := hF.1
  have hm1 := hM.1
  have hm2 := hM.2.1
  refine CQ.of (own := 11) (n := 2) (ini := false) (rt := (some .int)) (cd := cd228) (by decide +kernel) rfl (by decide +kernel) rfl (Nat.le_of_ble_eq_true rfl) ?_
  refine RQ.seg 5 (pc' := 7) (L' := [some (.ref 80), some (.int (iI row))]) (st' := [.int (iI row), .ref 80]) (g1 := (HW (usc sc 8000 0) ar tx oc rl ou tl, q)) rfl ?_
  refine RQ.callQ rfl rfl (m_isRow (sc := usc sc 8000 0) (ar := ar) hF hM hP (row := row) (by omega)) (fun rv g1 hc => ?_)
  rcases hc with ⟨hrk, rfl, rfl⟩ | ⟨hrk, rfl, f, rfl⟩
  · skip
    refine RQ.seg 2 (pc' := 16) (L' := [some (.ref 80), some (.int (iI row))]) (st' := [.ref 80]) (g1 := (HW (usc sc 8000 0) (usc ar 96 (rwp nb.toNat row (ar 96))) tx oc rl ou tl, q)) rfl ?_
    have hmy := prow_ok hn.2.2.1 hrk.2.2
    refine RQ.callQ rfl rfl (m_putBy (sc := usc sc 8000 0) (ar := usc ar 96 (rwp nb.toNat row (ar 96))) (P := prow nb row) hF hM (fun b h0 h1 => prow_c _ hn.2.2.1 h0 h1) hmy hlw hL hO hN) (fun rv g1 hc => ?_)
    obtain ⟨rfl, sc1, ar1, rfl, hs1, ha1, hN1⟩ := hc
    refine RQ.seg 2 (pc' := 23) (L' := [some (.ref 80), some (.int (iI row))]) (st' := [.int (iI (sc1 8032))]) (g1 := (HW sc1 ar1 tx oc rl ou tl, q)) rfl ?_
    refine RQ.ret rfl rfl ?_
    rw [if_pos hrk, if_pos hrk]
    exact ⟨by rw [hN1.1]; rfl, _, _, rfl, Same.tr (Same.us rfl Same.rf) (hs1.w rfl), Same.tr (Same.us rfl Same.rf) (ha1.w rfl), hN1⟩
  · skip
    refine RQ.seg 2 (pc' := 14) (L' := [some (.ref 80), some (.int (iI row))]) (st' := [.int (iI (-1))]) (g1 := (HW (usc sc 8000 0) (usc ar 96 f) tx oc rl ou tl, q)) rfl ?_
    refine RQ.ret rfl rfl ?_
    rw [if_neg hrk, if_neg hrk]
    exact ⟨rfl, _, _, rfl, (by repeat (first | exact Same.rf | refine Same.us rfl ?_)), (by repeat (first | exact Same.rf | refine Same.us rfl ?_)), hN⟩
theorem x_night {K : PK} {d : Nat} {sc : Nat → Int} {ar : Nat → Int → Int} {tx oc : Nat} {rl : Nat → Option Nat} {ou : Nat → Int64} {tl : List PO} {q : Nat × Nat} {row : Int} {nw nb : Int} {W B : Int → Int → Int} (hF : FrOK nw nb W B) (hX : FrX (sc 303) (sc 304) (ar 5) (ar 6) (ar 7) (ar 8) (ar 10) (ar 11) (ar 12) nw nb W B) {law : Int → Int} (hlw : ∀ j, 0 ≤ j → j < 4 → ar 32 j = law j) (hL : LwOK law) {D : SD} (hO : NtOK nb D) (hN : NtX D sc ar) (rrow : -2147483648 ≤ row ∧ row < 2147483648) : CQ K (d + 6) 131 [.ref 0, .int (iI row)] (HW sc ar tx oc rl ou tl, q) (fun r g' => r = some (.int (iI (if rok nw nb W B row then (dN D + 1) else (-1)))) ∧ ∃ sc' ar', g' = (HW sc' ar' tx oc rl ou tl, q) ∧ Same nxF2 sc sc' ∧ Same nxA2 ar ar' ∧ NtX (if rok nw nb W B row then nst nb (sS (svn nb W B (prow nb row))) (gnr nw nb W B law (prow nb row)) D else D) sc' ar') := by
  have hn := hF.1
  have hm1 := hX.1
  have hm2 := hX.2.1
  refine CQ.of (own := 10) (n := 2) (ini := false) (rt := (some .int)) (cd := cd131) (by decide +kernel) rfl (by decide +kernel) rfl (Nat.le_of_ble_eq_true rfl) ?_
  refine RQ.seg 2 (pc' := 2) (L' := [some (.ref 0), some (.int (iI row))]) (st' := [.int (iI row), .ref 0]) (g1 := (HW sc ar tx oc rl ou tl, q)) rfl ?_
  refine RQ.callQ rfl rfl ((x_playRow (d := 0) (sc := sc) (ar := ar) hF hX (row := row) (by omega)).up (by omega)) (fun rv g1 hc => ?_)
  rcases hc with ⟨hrk, rfl, sc1, ar1, rfl, hp, hs1, ha1⟩ | ⟨hrk, rfl, f, rfl⟩
  · skip
    have hmy := prow_ok hn.2.2.1 hrk.2.2
    have hX1 := hX.sm hs1 ha1
    have hlw1 : ∀ j, 0 ≤ j → j < 4 → ar1 32 j = law j := fun j h0 h1 => (congrFun (ha1 32 rfl) j).trans (hlw j h0 h1)
    refine RQ.seg 2 (pc' := 11) (L' := [some (.ref 0), some (.int (iI row))]) (st' := [.ref 0]) (g1 := (HW sc1 ar1 tx oc rl ou tl, q)) rfl ?_
    refine RQ.callQ rfl rfl ((x_putBy (d := 0) hF hX1 hmy hp hlw1 hL hO (hN.sm hs1 ha1)).up (by omega)) (fun rv g1 hc => ?_)
    obtain ⟨rfl, sc2, ar2, rfl, hs2, ha2, hN1⟩ := hc
    refine RQ.seg 3 (pc' := 21) (L' := [some (.ref 0), some (.int (iI row))]) (st' := [.int (iI (sc2 3106))]) (g1 := (HW sc2 ar2 tx oc rl ou tl, q)) rfl ?_
    refine RQ.ret rfl rfl ?_
    rw [if_pos hrk, if_pos hrk]
    exact ⟨by rw [hN1.1]; rfl, _, _, rfl, Same.tr (hs1.w rfl) (hs2.w rfl), Same.tr (ha1.w rfl) (ha2.w rfl), hN1⟩
  · skip
    refine RQ.seg 2 (pc' := 9) (L' := [some (.ref 0), some (.int (iI row))]) (st' := [.int (iI (-1))]) (g1 := (HW sc (usc ar 78 f) tx oc rl ou tl, q)) rfl ?_
    refine RQ.ret rfl rfl ?_
    rw [if_neg hrk, if_neg hrk]
    exact ⟨rfl, _, _, rfl, (by repeat (first | exact Same.rf | refine Same.us rfl ?_)), (by repeat (first | exact Same.rf | refine Same.us rfl ?_)), hN⟩
theorem x_takeBack {K : PK} {d : Nat} {sc : Nat → Int} {ar : Nat → Int → Int} {tx oc : Nat} {rl : Nat → Option Nat} {ou : Nat → Int64} {tl : List PO} {q : Nat × Nat} (hn : 0 ≤ sc 3106 ∧ sc 3106 < 1000000) (hu : 0 < sc 3107 ∧ sc 3107 ≤ 40) : CQ K (d + 3) 98 [.ref 31] (HW sc ar tx oc rl ou tl, q) (fun r g' => r = none ∧ ∃ f g, g' = (HW (usc (usc sc 3106 (sc 3106 - 1)) 3107 (sc 3107 - 1)) (usc (usc ar 37 f) 38 g) tx oc rl ou tl, q) ∧ ∀ b, 0 ≤ b → b < 3 → f b = ar 37 b - ar 39 (sc 3106 % 40 * 3 + b) ∧ g b = ar 38 b - ar 40 (sc 3106 % 40 * 3 + b)) := by
  refine CQ.of (own := 8) (n := 2) (ini := false) (rt := none) (cd := cd98) (by decide +kernel) rfl (by decide +kernel) rfl (Nat.le_of_ble_eq_true rfl) ?_
  refine RQ.seg 9 (pc' := 13) (L' := [some (.ref 31), some (.int (iI 0))]) (st' := [.int (iI 0), .ref 37, .int (iI 0), .ref 37]) (g1 := (HW sc ar tx oc rl ou tl, q)) rfl ?_
  refine RQ.iald (z := 0) rfl rfl rfl (by omega) (by decide) ?_
  refine RQ.seg 4 (pc' := 20) (L' := [some (.ref 31), some (.int (iI 0))]) (st' := [.int (iI 0), .ref 31, .ref 39, .int (iI ((ar 37) 0)), .int (iI 0), .ref 37]) (g1 := (HW sc ar tx oc rl ou tl, q)) rfl ?_
  refine RQ.call rfl rfl (CallR.up (d := 2) (x_latest (d := 0) (sc := sc) (ar := ar) (b := 0) (by show 0 ≤ sc 3106 ∧ sc 3106 < 2147483647; omega)) (by omega)) ?_
  refine RQ.iald (z := ((sc 3106) % 40 * 3 + 0)) rfl rfl rfl (by omega) (by decide) ?_
  refine RQ.seg 1 (pc' := 25) (L' := [some (.ref 31), some (.int (iI 0))]) (st' := [.int ((iI ((ar 37) 0)) - (iI ((ar 39) ((sc 3106) % 40 * 3 + 0)))), .int (iI 0), .ref 37]) (g1 := (HW sc ar tx oc rl ou tl, q)) rfl ?_
  refine RQ.iast (z := 0) (v := ((ar 37) 0 - ((ar 39) ((sc 3106) % 40 * 3 + 0)))) (g1 := (HW sc (usc ar 37 (usz (ar 37) 0 ((ar 37) 0 - ((ar 39) ((sc 3106) % 40 * 3 + 0))))) tx oc rl ou tl, q)) rfl rfl (by simp only [iI_add, iI_sub, iI_mul, iI_neg]) rfl (by omega) (by decide) (HWa_37 rfl) ?_
  refine RQ.seg 4 (pc' := 32) (L' := [some (.ref 31), some (.int (iI 0))]) (st' := [.int (iI 0), .ref 38, .int (iI 0), .ref 38]) (g1 := (HW sc (usc ar 37 (usz (ar 37) 0 ((ar 37) 0 - ((ar 39) ((sc 3106) % 40 * 3 + 0))))) tx oc rl ou tl, q)) rfl ?_
  refine RQ.iald (z := 0) rfl rfl rfl (by omega) (by decide) ?_
  refine RQ.seg 4 (pc' := 39) (L' := [some (.ref 31), some (.int (iI 0))]) (st' := [.int (iI 0), .ref 31, .ref 40, .int (iI ((ar 38) 0)), .int (iI 0), .ref 38]) (g1 := (HW sc (usc ar 37 (usz (ar 37) 0 ((ar 37) 0 - ((ar 39) ((sc 3106) % 40 * 3 + 0))))) tx oc rl ou tl, q)) rfl ?_
  refine RQ.call rfl rfl (CallR.up (d := 2) (x_latest (d := 0) (sc := sc) (ar := usc ar 37 (usz (ar 37) 0 ((ar 37) 0 - ((ar 39) ((sc 3106) % 40 * 3 + 0))))) (b := 0) (by show 0 ≤ sc 3106 ∧ sc 3106 < 2147483647; omega)) (by omega)) ?_
  refine RQ.iald (z := ((sc 3106) % 40 * 3 + 0)) rfl rfl rfl (by omega) (by decide) ?_
  refine RQ.seg 1 (pc' := 44) (L' := [some (.ref 31), some (.int (iI 0))]) (st' := [.int ((iI ((ar 38) 0)) - (iI ((ar 40) ((sc 3106) % 40 * 3 + 0)))), .int (iI 0), .ref 38]) (g1 := (HW sc (usc ar 37 (usz (ar 37) 0 ((ar 37) 0 - ((ar 39) ((sc 3106) % 40 * 3 + 0))))) tx oc rl ou tl, q)) rfl ?_
  refine RQ.iast (z := 0) (v := ((ar 38) 0 - ((ar 40) ((sc 3106) % 40 * 3 + 0)))) (g1 := (HW sc (usc (usc ar 37 (usz (ar 37) 0 ((ar 37) 0 - ((ar 39) ((sc 3106) % 40 * 3 + 0))))) 38 (usz (ar 38) 0 ((ar 38) 0 - ((ar 40) ((sc 3106) % 40 * 3 + 0))))) tx oc rl ou tl, q)) rfl rfl (by simp only [iI_add, iI_sub, iI_mul, iI_neg]) rfl (by omega) (by decide) (HWa_38 rfl) ?_
  refine RQ.seg 9 (pc' := 13) (L' := [some (.ref 31), some (.int (iI 1))]) (st' := [.int (iI 1), .ref 37, .int (iI 1), .ref 37]) (g1 := (HW sc (usc (usc ar 37 (usz (ar 37) 0 ((ar 37) 0 - ((ar 39) ((sc 3106) % 40 * 3 + 0))))) 38 (usz (ar 38) 0 ((ar 38) 0 - ((ar 40) ((sc 3106) % 40 * 3 + 0))))) tx oc rl ou tl, q)) rfl ?_
  refine RQ.ialdv (z := 1) (v := ((ar 37) 1)) rfl rfl rfl (by omega) (by decide) (show (usz (ar 37) 0 ((ar 37) 0 - ((ar 39) ((sc 3106) % 40 * 3 + 0)))) 1 = (ar 37) 1 by rw [usz_n (by omega)]) ?_
  refine RQ.seg 4 (pc' := 20) (L' := [some (.ref 31), some (.int (iI 1))]) (st' := [.int (iI 1), .ref 31, .ref 39, .int (iI ((ar 37) 1)), .int (iI 1), .ref 37]) (g1 := (HW sc (usc (usc ar 37 (usz (ar 37) 0 ((ar 37) 0 - ((ar 39) ((sc 3106) % 40 * 3 + 0))))) 38 (usz (ar 38) 0 ((ar 38) 0 - ((ar 40) ((sc 3106) % 40 * 3 + 0))))) tx oc rl ou tl, q)) rfl ?_
  refine RQ.call rfl rfl (CallR.up (d := 2) (x_latest (d := 0) (sc := sc) (ar := usc (usc ar 37 (usz (ar 37) 0 ((ar 37) 0 - ((ar 39) ((sc 3106) % 40 * 3 + 0))))) 38 (usz (ar 38) 0 ((ar 38) 0 - ((ar 40) ((sc 3106) % 40 * 3 + 0))))) (b := 1) (by show 0 ≤ sc 3106 ∧ sc 3106 < 2147483647; omega)) (by omega)) ?_
  refine RQ.iald (z := ((sc 3106) % 40 * 3 + 1)) rfl rfl rfl (by omega) (by decide) ?_
  refine RQ.seg 1 (pc' := 25) (L' := [some (.ref 31), some (.int (iI 1))]) (st' := [.int ((iI ((ar 37) 1)) - (iI ((ar 39) ((sc 3106) % 40 * 3 + 1)))), .int (iI 1), .ref 37]) (g1 := (HW sc (usc (usc ar 37 (usz (ar 37) 0 ((ar 37) 0 - ((ar 39) ((sc 3106) % 40 * 3 + 0))))) 38 (usz (ar 38) 0 ((ar 38) 0 - ((ar 40) ((sc 3106) % 40 * 3 + 0))))) tx oc rl ou tl, q)) rfl ?_
  refine RQ.iast (z := 1) (v := ((ar 37) 1 - ((ar 39) ((sc 3106) % 40 * 3 + 1)))) (g1 := (HW sc (usc (usc ar 37 (usz (usz (ar 37) 0 ((ar 37) 0 - ((ar 39) ((sc 3106) % 40 * 3 + 0)))) 1 ((ar 37) 1 - ((ar 39) ((sc 3106) % 40 * 3 + 1))))) 38 (usz (ar 38) 0 ((ar 38) 0 - ((ar 40) ((sc 3106) % 40 * 3 + 0))))) tx oc rl ou tl, q)) rfl rfl (by simp only [iI_add, iI_sub, iI_mul, iI_neg]) rfl (by omega) (by decide) (HWa_37 (by funext j; unfold usc; cases hb : Nat.beq j 37 <;> first | rfl | (rw [Nat.eq_of_beq_eq_true hb]; rfl))) ?_
  refine RQ.seg 4 (pc' := 32) (L' := [some (.ref 31), some (.int (iI 1))]) (st' := [.int (iI 1), .ref 38, .int (iI 1), .ref 38]) (g1 := (HW sc (usc (usc ar 37 (usz (usz (ar 37) 0 ((ar 37) 0 - ((ar 39) ((sc 3106) % 40 * 3 + 0)))) 1 ((ar 37) 1 - ((ar 39) ((sc 3106) % 40 * 3 + 1))))) 38 (usz (ar 38) 0 ((ar 38) 0 - ((ar 40) ((sc 3106) % 40 * 3 + 0))))) tx oc rl ou tl, q)) rfl ?_
  refine RQ.ialdv (z := 1) (v := ((ar 38) 1)) rfl rfl rfl (by omega) (by decide) (show (usz (ar 38) 0 ((ar 38) 0 - ((ar 40) ((sc 3106) % 40 * 3 + 0)))) 1 = (ar 38) 1 by rw [usz_n (by omega)]) ?_
  refine RQ.seg 4 (pc' := 39) (L' := [some (.ref 31), some (.int (iI 1))]) (st' := [.int (iI 1), .ref 31, .ref 40, .int (iI ((ar 38) 1)), .int (iI 1), .ref 38]) (g1 := (HW sc (usc (usc ar 37 (usz (usz (ar 37) 0 ((ar 37) 0 - ((ar 39) ((sc 3106) % 40 * 3 + 0)))) 1 ((ar 37) 1 - ((ar 39) ((sc 3106) % 40 * 3 + 1))))) 38 (usz (ar 38) 0 ((ar 38) 0 - ((ar 40) ((sc 3106) % 40 * 3 + 0))))) tx oc rl ou tl, q)) rfl ?_
  refine RQ.call rfl rfl (CallR.up (d := 2) (x_latest (d := 0) (sc := sc) (ar := usc (usc ar 37 (usz (usz (ar 37) 0 ((ar 37) 0 - ((ar 39) ((sc 3106) % 40 * 3 + 0)))) 1 ((ar 37) 1 - ((ar 39) ((sc 3106) % 40 * 3 + 1))))) 38 (usz (ar 38) 0 ((ar 38) 0 - ((ar 40) ((sc 3106) % 40 * 3 + 0))))) (b := 1) (by show 0 ≤ sc 3106 ∧ sc 3106 < 2147483647; omega)) (by omega)) ?_
  refine RQ.iald (z := ((sc 3106) % 40 * 3 + 1)) rfl rfl rfl (by omega) (by decide) ?_
  refine RQ.seg 1 (pc' := 44) (L' := [some (.ref 31), some (.int (iI 1))]) (st' := [.int ((iI ((ar 38) 1)) - (iI ((ar 40) ((sc 3106) % 40 * 3 + 1)))), .int (iI 1), .ref 38]) (g1 := (HW sc (usc (usc ar 37 (usz (usz (ar 37) 0 ((ar 37) 0 - ((ar 39) ((sc 3106) % 40 * 3 + 0)))) 1 ((ar 37) 1 - ((ar 39) ((sc 3106) % 40 * 3 + 1))))) 38 (usz (ar 38) 0 ((ar 38) 0 - ((ar 40) ((sc 3106) % 40 * 3 + 0))))) tx oc rl ou tl, q)) rfl ?_
  refine RQ.iast (z := 1) (v := ((ar 38) 1 - ((ar 40) ((sc 3106) % 40 * 3 + 1)))) (g1 := (HW sc (usc (usc ar 37 (usz (usz (ar 37) 0 ((ar 37) 0 - ((ar 39) ((sc 3106) % 40 * 3 + 0)))) 1 ((ar 37) 1 - ((ar 39) ((sc 3106) % 40 * 3 + 1))))) 38 (usz (usz (ar 38) 0 ((ar 38) 0 - ((ar 40) ((sc 3106) % 40 * 3 + 0)))) 1 ((ar 38) 1 - ((ar 40) ((sc 3106) % 40 * 3 + 1))))) tx oc rl ou tl, q)) rfl rfl (by simp only [iI_add, iI_sub, iI_mul, iI_neg]) rfl (by omega) (by decide) (HWa_38 (by funext j; unfold usc; cases hb : Nat.beq j 38 <;> first | rfl | (rw [Nat.eq_of_beq_eq_true hb]; rfl))) ?_
  refine RQ.seg 9 (pc' := 13) (L' := [some (.ref 31), some (.int (iI 2))]) (st' := [.int (iI 2), .ref 37, .int (iI 2), .ref 37]) (g1 := (HW sc (usc (usc ar 37 (usz (usz (ar 37) 0 ((ar 37) 0 - ((ar 39) ((sc 3106) % 40 * 3 + 0)))) 1 ((ar 37) 1 - ((ar 39) ((sc 3106) % 40 * 3 + 1))))) 38 (usz (usz (ar 38) 0 ((ar 38) 0 - ((ar 40) ((sc 3106) % 40 * 3 + 0)))) 1 ((ar 38) 1 - ((ar 40) ((sc 3106) % 40 * 3 + 1))))) tx oc rl ou tl, q)) rfl ?_
  refine RQ.ialdv (z := 2) (v := ((ar 37) 2)) rfl rfl rfl (by omega) (by decide) (show (usz (usz (ar 37) 0 ((ar 37) 0 - ((ar 39) ((sc 3106) % 40 * 3 + 0)))) 1 ((ar 37) 1 - ((ar 39) ((sc 3106) % 40 * 3 + 1)))) 2 = (ar 37) 2 by rw [usz_n (by omega), usz_n (by omega)]) ?_
  refine RQ.seg 4 (pc' := 20) (L' := [some (.ref 31), some (.int (iI 2))]) (st' := [.int (iI 2), .ref 31, .ref 39, .int (iI ((ar 37) 2)), .int (iI 2), .ref 37]) (g1 := (HW sc (usc (usc ar 37 (usz (usz (ar 37) 0 ((ar 37) 0 - ((ar 39) ((sc 3106) % 40 * 3 + 0)))) 1 ((ar 37) 1 - ((ar 39) ((sc 3106) % 40 * 3 + 1))))) 38 (usz (usz (ar 38) 0 ((ar 38) 0 - ((ar 40) ((sc 3106) % 40 * 3 + 0)))) 1 ((ar 38) 1 - ((ar 40) ((sc 3106) % 40 * 3 + 1))))) tx oc rl ou tl, q)) rfl ?_
  refine RQ.call rfl rfl (CallR.up (d := 2) (x_latest (d := 0) (sc := sc) (ar := usc (usc ar 37 (usz (usz (ar 37) 0 ((ar 37) 0 - ((ar 39) ((sc 3106) % 40 * 3 + 0)))) 1 ((ar 37) 1 - ((ar 39) ((sc 3106) % 40 * 3 + 1))))) 38 (usz (usz (ar 38) 0 ((ar 38) 0 - ((ar 40) ((sc 3106) % 40 * 3 + 0)))) 1 ((ar 38) 1 - ((ar 40) ((sc 3106) % 40 * 3 + 1))))) (b := 2) (by show 0 ≤ sc 3106 ∧ sc 3106 < 2147483647; omega)) (by omega)) ?_
  refine RQ.iald (z := ((sc 3106) % 40 * 3 + 2)) rfl rfl rfl (by omega) (by decide) ?_
  refine RQ.seg 1 (pc' := 25) (L' := [some (.ref 31), some (.int (iI 2))]) (st' := [.int ((iI ((ar 37) 2)) - (iI ((ar 39) ((sc 3106) % 40 * 3 + 2)))), .int (iI 2), .ref 37]) (g1 := (HW sc (usc (usc ar 37 (usz (usz (ar 37) 0 ((ar 37) 0 - ((ar 39) ((sc 3106) % 40 * 3 + 0)))) 1 ((ar 37) 1 - ((ar 39) ((sc 3106) % 40 * 3 + 1))))) 38 (usz (usz (ar 38) 0 ((ar 38) 0 - ((ar 40) ((sc 3106) % 40 * 3 + 0)))) 1 ((ar 38) 1 - ((ar 40) ((sc 3106) % 40 * 3 + 1))))) tx oc rl ou tl, q)) rfl ?_
  refine RQ.iast (z := 2) (v := ((ar 37) 2 - ((ar 39) ((sc 3106) % 40 * 3 + 2)))) (g1 := (HW sc (usc (usc ar 37 (usz (usz (usz (ar 37) 0 ((ar 37) 0 - ((ar 39) ((sc 3106) % 40 * 3 + 0)))) 1 ((ar 37) 1 - ((ar 39) ((sc 3106) % 40 * 3 + 1)))) 2 ((ar 37) 2 - ((ar 39) ((sc 3106) % 40 * 3 + 2))))) 38 (usz (usz (ar 38) 0 ((ar 38) 0 - ((ar 40) ((sc 3106) % 40 * 3 + 0)))) 1 ((ar 38) 1 - ((ar 40) ((sc 3106) % 40 * 3 + 1))))) tx oc rl ou tl, q)) rfl rfl (by simp only [iI_add, iI_sub, iI_mul, iI_neg]) rfl (by omega) (by decide) (HWa_37 (by funext j; unfold usc; cases hb : Nat.beq j 37 <;> first | rfl | (rw [Nat.eq_of_beq_eq_true hb]; rfl))) ?_
  refine RQ.seg 4 (pc' := 32) (L' := [some (.ref 31), some (.int (iI 2))]) (st' := [.int (iI 2), .ref 38, .int (iI 2), .ref 38]) (g1 := (HW sc (usc (usc ar 37 (usz (usz (usz (ar 37) 0 ((ar 37) 0 - ((ar 39) ((sc 3106) % 40 * 3 + 0)))) 1 ((ar 37) 1 - ((ar 39) ((sc 3106) % 40 * 3 + 1)))) 2 ((ar 37) 2 - ((ar 39) ((sc 3106) % 40 * 3 + 2))))) 38 (usz (usz (ar 38) 0 ((ar 38) 0 - ((ar 40) ((sc 3106) % 40 * 3 + 0)))) 1 ((ar 38) 1 - ((ar 40) ((sc 3106) % 40 * 3 + 1))))) tx oc rl ou tl, q)) rfl ?_
  refine RQ.ialdv (z := 2) (v := ((ar 38) 2)) rfl rfl rfl (by omega) (by decide) (show (usz (usz (ar 38) 0 ((ar 38) 0 - ((ar 40) ((sc 3106) % 40 * 3 + 0)))) 1 ((ar 38) 1 - ((ar 40) ((sc 3106) % 40 * 3 + 1)))) 2 = (ar 38) 2 by rw [usz_n (by omega), usz_n (by omega)]) ?_
  refine RQ.seg 4 (pc' := 39) (L' := [some (.ref 31), some (.int (iI 2))]) (st' := [.int (iI 2), .ref 31, .ref 40, .int (iI ((ar 38) 2)), .int (iI 2), .ref 38]) (g1 := (HW sc (usc (usc ar 37 (usz (usz (usz (ar 37) 0 ((ar 37) 0 - ((ar 39) ((sc 3106) % 40 * 3 + 0)))) 1 ((ar 37) 1 - ((ar 39) ((sc 3106) % 40 * 3 + 1)))) 2 ((ar 37) 2 - ((ar 39) ((sc 3106) % 40 * 3 + 2))))) 38 (usz (usz (ar 38) 0 ((ar 38) 0 - ((ar 40) ((sc 3106) % 40 * 3 + 0)))) 1 ((ar 38) 1 - ((ar 40) ((sc 3106) % 40 * 3 + 1))))) tx oc rl ou tl, q)) rfl ?_
  refine RQ.call rfl rfl (CallR.up (d := 2) (x_latest (d := 0) (sc := sc) (ar := usc (usc ar 37 (usz (usz (usz (ar 37) 0 ((ar 37) 0 - ((ar 39) ((sc 3106) % 40 * 3 + 0)))) 1 ((ar 37) 1 - ((ar 39) ((sc 3106) % 40 * 3 + 1)))) 2 ((ar 37) 2 - ((ar 39) ((sc 3106) % 40 * 3 + 2))))) 38 (usz (usz (ar 38) 0 ((ar 38) 0 - ((ar 40) ((sc 3106) % 40 * 3 + 0)))) 1 ((ar 38) 1 - ((ar 40) ((sc 3106) % 40 * 3 + 1))))) (b := 2) (by show 0 ≤ sc 3106 ∧ sc 3106 < 2147483647; omega)) (by omega)) ?_
  refine RQ.iald (z := ((sc 3106) % 40 * 3 + 2)) rfl rfl rfl (by omega) (by decide) ?_
  refine RQ.seg 1 (pc' := 44) (L' := [some (.ref 31), some (.int (iI 2))]) (st' := [.int ((iI ((ar 38) 2)) - (iI ((ar 40) ((sc 3106) % 40 * 3 + 2)))), .int (iI 2), .ref 38]) (g1 := (HW sc (usc (usc ar 37 (usz (usz (usz (ar 37) 0 ((ar 37) 0 - ((ar 39) ((sc 3106) % 40 * 3 + 0)))) 1 ((ar 37) 1 - ((ar 39) ((sc 3106) % 40 * 3 + 1)))) 2 ((ar 37) 2 - ((ar 39) ((sc 3106) % 40 * 3 + 2))))) 38 (usz (usz (ar 38) 0 ((ar 38) 0 - ((ar 40) ((sc 3106) % 40 * 3 + 0)))) 1 ((ar 38) 1 - ((ar 40) ((sc 3106) % 40 * 3 + 1))))) tx oc rl ou tl, q)) rfl ?_
  refine RQ.iast (z := 2) (v := ((ar 38) 2 - ((ar 40) ((sc 3106) % 40 * 3 + 2)))) (g1 := (HW sc (usc (usc ar 37 (usz (usz (usz (ar 37) 0 ((ar 37) 0 - ((ar 39) ((sc 3106) % 40 * 3 + 0)))) 1 ((ar 37) 1 - ((ar 39) ((sc 3106) % 40 * 3 + 1)))) 2 ((ar 37) 2 - ((ar 39) ((sc 3106) % 40 * 3 + 2))))) 38 (usz (usz (usz (ar 38) 0 ((ar 38) 0 - ((ar 40) ((sc 3106) % 40 * 3 + 0)))) 1 ((ar 38) 1 - ((ar 40) ((sc 3106) % 40 * 3 + 1)))) 2 ((ar 38) 2 - ((ar 40) ((sc 3106) % 40 * 3 + 2))))) tx oc rl ou tl, q)) rfl rfl (by simp only [iI_add, iI_sub, iI_mul, iI_neg]) rfl (by omega) (by decide) (HWa_38 (by funext j; unfold usc; cases hb : Nat.beq j 38 <;> first | rfl | (rw [Nat.eq_of_beq_eq_true hb]; rfl))) ?_
  refine RQ.seg 10 (pc' := 58) (L' := [some (.ref 31), some (.int (iI 3))]) (st' := [.int ((iI (sc 3106)) - (iI 1)), .ref 31]) (g1 := (HW sc (usc (usc ar 37 (usz (usz (usz (ar 37) 0 ((ar 37) 0 - ((ar 39) ((sc 3106) % 40 * 3 + 0)))) 1 ((ar 37) 1 - ((ar 39) ((sc 3106) % 40 * 3 + 1)))) 2 ((ar 37) 2 - ((ar 39) ((sc 3106) % 40 * 3 + 2))))) 38 (usz (usz (usz (ar 38) 0 ((ar 38) 0 - ((ar 40) ((sc 3106) % 40 * 3 + 0)))) 1 ((ar 38) 1 - ((ar 40) ((sc 3106) % 40 * 3 + 1)))) 2 ((ar 38) 2 - ((ar 40) ((sc 3106) % 40 * 3 + 2))))) tx oc rl ou tl, q)) rfl ?_
  refine RQ.to (L' := [some (.ref 31), some (.int (iI 3))]) (st' := [.int (iI (sc 3106 - 1)), .ref 31]) rfl (by simp only [iI_add, iI_sub, iI_mul, iI_neg]) ?_
  refine RQ.seg 6 (pc' := 68) (L' := [some (.ref 31), some (.int (iI 3))]) (st' := [.int ((iI (sc 3107)) - (iI 1)), .ref 31]) (g1 := (HW (usc sc 3106 (sc 3106 - 1)) (usc (usc ar 37 (usz (usz (usz (ar 37) 0 ((ar 37) 0 - ((ar 39) ((sc 3106) % 40 * 3 + 0)))) 1 ((ar 37) 1 - ((ar 39) ((sc 3106) % 40 * 3 + 1)))) 2 ((ar 37) 2 - ((ar 39) ((sc 3106) % 40 * 3 + 2))))) 38 (usz (usz (usz (ar 38) 0 ((ar 38) 0 - ((ar 40) ((sc 3106) % 40 * 3 + 0)))) 1 ((ar 38) 1 - ((ar 40) ((sc 3106) % 40 * 3 + 1)))) 2 ((ar 38) 2 - ((ar 40) ((sc 3106) % 40 * 3 + 2))))) tx oc rl ou tl, q)) rfl ?_
  refine RQ.to (L' := [some (.ref 31), some (.int (iI 3))]) (st' := [.int (iI (sc 3107 - 1)), .ref 31]) rfl (by simp only [iI_add, iI_sub, iI_mul, iI_neg]) ?_
  refine RQ.seg 1 (pc' := 71) (L' := [some (.ref 31), some (.int (iI 3))]) (st' := []) (g1 := (HW (usc (usc sc 3106 (sc 3106 - 1)) 3107 (sc 3107 - 1)) (usc (usc ar 37 (usz (usz (usz (ar 37) 0 ((ar 37) 0 - ((ar 39) ((sc 3106) % 40 * 3 + 0)))) 1 ((ar 37) 1 - ((ar 39) ((sc 3106) % 40 * 3 + 1)))) 2 ((ar 37) 2 - ((ar 39) ((sc 3106) % 40 * 3 + 2))))) 38 (usz (usz (usz (ar 38) 0 ((ar 38) 0 - ((ar 40) ((sc 3106) % 40 * 3 + 0)))) 1 ((ar 38) 1 - ((ar 40) ((sc 3106) % 40 * 3 + 1)))) 2 ((ar 38) 2 - ((ar 40) ((sc 3106) % 40 * 3 + 2))))) tx oc rl ou tl, q)) rfl ?_
  refine RQ.ret rfl rfl ?_
  refine ⟨rfl, _, _, rfl, fun b h0 h1 => ?_⟩
  rcases (show b = 0 ∨ b = 1 ∨ b = 2 by omega) with rfl | rfl | rfl <;> refine ⟨?_, ?_⟩ <;> (repeat (first | rw [usz_s] | rw [usz_n (by omega)]))
theorem x_undo {K : PK} {d : Nat} {sc : Nat → Int} {ar : Nat → Int → Int} {tx oc : Nat} {rl : Nat → Option Nat} {ou : Nat → Int64} {tl : List PO} {q : Nat × Nat} {nb : Int} {D : SD} (hO : NtOK nb D) (hN : NtX D sc ar) : CQ K (d + 4) 133 [.ref 0] (HW sc ar tx oc rl ou tl, q) (fun r g' => r = some (.int (iI (if 0 < dU D then (dN D - 1) else (-1)))) ∧ ∃ sc' ar', g' = (HW sc' ar' tx oc rl ou tl, q) ∧ Same nxF2 sc sc' ∧ Same nxA2 ar ar' ∧ NtX (if 0 < dU D then nun D else D) sc' ar') := by
  have hn1 : sc 3106 = dN D := hN.1
  have hu1 : sc 3107 = dU D := hN.2.1
  have hO1 := hO.1
  have hO2 := hO.2.1
  have hO3 := hO.2.2.1
  refine CQ.of (own := 10) (n := 1) (ini := false) (rt := (some .int)) (cd := cd133) (by decide +kernel) rfl (by decide +kernel) rfl (Nat.le_of_ble_eq_true rfl) ?_
  refine RQ.seg 3 (pc' := 7) (L' := [some (.ref 0)]) (st' := [.int (iI (sc 3107))]) (g1 := (HW sc ar tx oc rl ou tl, q)) rfl ?_
  refine RQ.if1 (a := (sc 3107)) rfl rfl rfl (by omega) (fun (h1 : 0 < sc 3107) => ?_) (fun (h1 : ¬ 0 < sc 3107) => ?_)
  · skip
    refine RQ.seg 2 (pc' := 16) (L' := [some (.ref 0)]) (st' := [.ref 31]) (g1 := (HW sc ar tx oc rl ou tl, q)) rfl ?_
    refine RQ.callQ rfl rfl (x_takeBack (by omega) (by omega)) (fun rv g1 hc => ?_)
    obtain ⟨rfl, f, g, rfl, hfg⟩ := hc
    refine RQ.seg 3 (pc' := 26) (L' := [some (.ref 0)]) (st' := [.int (iI (sc 3106 - 1))]) (g1 := (HW (usc (usc sc 3106 (sc 3106 - 1)) 3107 (sc 3107 - 1)) (usc (usc ar 37 f) 38 g) tx oc rl ou tl, q)) rfl ?_
    refine RQ.ret rfl rfl ?_
    rw [if_pos (by omega), if_pos (by omega)]
    rw [hn1] at hfg
    exact ⟨by rw [hn1], _, _, rfl, (by repeat (first | exact Same.rf | refine Same.us rfl ?_)), (by repeat (first | exact Same.rf | refine Same.us rfl ?_)), NtX.un hO (by omega) hN (by show sc 3106 - 1 = _; rw [hn1]) (by show sc 3107 - 1 = _; rw [hu1]) hfg rfl rfl⟩
  · skip
    refine RQ.seg 1 (pc' := 11) (L' := [some (.ref 0)]) (st' := [.int (iI (-1))]) (g1 := (HW sc ar tx oc rl ou tl, q)) rfl ?_
    refine RQ.ret rfl rfl ?_
    rw [if_neg (by omega), if_neg (by omega)]
    exact ⟨rfl, _, _, rfl, Same.rf, Same.rf, hN⟩
theorem m_un_l {sc0 : Nat → Int} {ar0 : Nat → Int → Int} {K : PK} {d : Nat} {tx oc : Nat} {rl : Nat → Option Nat} {ou : Nat → Int64} {tl : List PO} {q : Nat × Nat} {Q : Option Value → PG → Prop} {nw nb : Int} {W B : Int → Int → Int} (hF : FrOK nw nb W B) {D : SD} (hM : FrM (sc0 8024) (sc0 8025) (ar0 85) (ar0 86) nw nb W B) (hu : 0 < dU D ∧ dU D ≤ 40) (hk : ∀ f92 f93 : Int → Int, (∀ b, 0 ≤ b → b < 3 → f92 b = (if b < nb then ar0 92 b - ar0 114 (3 * (dU D - 1) + b) else ar0 92 b) ∧ f93 b = (if b < nb then ar0 93 b - ar0 115 (3 * (dU D - 1) + b) else ar0 93 b)) → Q (some (.int (iI (dN D - 1)))) (HW (usc (usc (usc sc0 8000 0) 8032 (dN D - 1)) 8059 (dU D - 1)) (usc (usc ar0 92 f92) 93 f93) tx oc rl ou tl, q)) : ∀ (m n : Nat) (f92 f93 : Int → Int) (hm : (n : Int) + m = nb) (hi : (∀ b, 0 ≤ b → b < 3 → f92 b = (if b < (n : Int) then ar0 92 b - ar0 114 (3 * (dU D - 1) + b) else ar0 92 b) ∧ f93 b = (if b < (n : Int) then ar0 93 b - ar0 115 (3 * (dU D - 1) + b) else ar0 93 b))), RQ K (d + 0) 11 false (some .int) cd230 36 [some (.ref 80), some (.int (iI (n : Int)))] [] (HW (usc (usc (usc sc0 8000 0) 8032 (dN D - 1)) 8059 (dU D - 1)) (usc (usc ar0 92 f92) 93 f93) tx oc rl ou tl, q) Q
  | 0, n, f92, f93, hm, hi => by
    have hn := hF.1
    have hm1 := hM.1
    have hm2 := hM.2.1
    refine RQ.seg 3 (pc' := 41) (L' := [some (.ref 80), some (.int (iI (n : Int)))]) (st' := [.int (iI (sc0 8025)), .int (iI (n : Int))]) (g1 := (HW (usc (usc (usc sc0 8000 0) 8032 (dN D - 1)) 8059 (dU D - 1)) (usc (usc ar0 92 f92) 93 f93) tx oc rl ou tl, q)) rfl ?_
    refine RQ.if2 (a := (n : Int)) (b := (sc0 8025)) rfl rfl rfl rfl (by omega) (by omega) (fun _ => ?_) (fun (q : ¬ sc0 8025 ≤ (n : Int)) => absurd (show sc0 8025 ≤ (n : Int) from by omega) q)
    refine RQ.seg 2 (pc' := 98) (L' := [some (.ref 80), some (.int (iI (n : Int)))]) (st' := [.int (iI (dN D - 1))]) (g1 := (HW (usc (usc (usc sc0 8000 0) 8032 (dN D - 1)) 8059 (dU D - 1)) (usc (usc ar0 92 f92) 93 f93) tx oc rl ou tl, q)) rfl ?_
    refine RQ.ret rfl rfl ?_
    obtain rfl : nb = (n : Int) := by omega
    exact hk _ _ hi
  | m + 1, n, f92, f93, hm, hi => by
    have hn := hF.1
    have hm1 := hM.1
    have hm2 := hM.2.1
    refine RQ.seg 3 (pc' := 41) (L' := [some (.ref 80), some (.int (iI (n : Int)))]) (st' := [.int (iI (sc0 8025)), .int (iI (n : Int))]) (g1 := (HW (usc (usc (usc sc0 8000 0) 8032 (dN D - 1)) 8059 (dU D - 1)) (usc (usc ar0 92 f92) 93 f93) tx oc rl ou tl, q)) rfl ?_
    refine RQ.if2 (a := (n : Int)) (b := (sc0 8025)) rfl rfl rfl rfl (by omega) (by omega) (fun (q : sc0 8025 ≤ (n : Int)) => absurd q (show ¬ sc0 8025 ≤ (n : Int) from by omega)) (fun _ => ?_)
    refine RQ.seg 4 (pc' := 50) (L' := [some (.ref 80), some (.int (iI (n : Int)))]) (st' := [.int (iI (n : Int)), .ref 92, .int (iI (n : Int)), .ref 92]) (g1 := (HW (usc (usc (usc sc0 8000 0) 8032 (dN D - 1)) 8059 (dU D - 1)) (usc (usc ar0 92 f92) 93 f93) tx oc rl ou tl, q)) rfl ?_
    refine RQ.iald (z := (n : Int)) rfl rfl rfl (by omega) (by decide) ?_
    refine RQ.seg 8 (pc' := 63) (L' := [some (.ref 80), some (.int (iI (n : Int)))]) (st' := [.int (((iI 3) * (iI (dU D - 1))) + (iI (n : Int))), .ref 114, .int (iI (f92 (n : Int))), .int (iI (n : Int)), .ref 92]) (g1 := (HW (usc (usc (usc sc0 8000 0) 8032 (dN D - 1)) 8059 (dU D - 1)) (usc (usc ar0 92 f92) 93 f93) tx oc rl ou tl, q)) rfl ?_
    refine RQ.iald (z := (3 * (dU D - 1) + (n : Int))) rfl (by simp only [iI_add, iI_sub, iI_mul, iI_neg]) rfl (by omega) (by decide) ?_
    refine RQ.seg 1 (pc' := 65) (L' := [some (.ref 80), some (.int (iI (n : Int)))]) (st' := [.int ((iI (f92 (n : Int))) - (iI ((ar0 114) (3 * (dU D - 1) + (n : Int))))), .int (iI (n : Int)), .ref 92]) (g1 := (HW (usc (usc (usc sc0 8000 0) 8032 (dN D - 1)) 8059 (dU D - 1)) (usc (usc ar0 92 f92) 93 f93) tx oc rl ou tl, q)) rfl ?_
    refine RQ.iast (z := (n : Int)) (v := (f92 (n : Int) - ((ar0 114) (3 * (dU D - 1) + (n : Int))))) (g1 := (HW (usc (usc (usc sc0 8000 0) 8032 (dN D - 1)) 8059 (dU D - 1)) (usc (usc ar0 92 (usz f92 (n : Int) (f92 (n : Int) - ((ar0 114) (3 * (dU D - 1) + (n : Int)))))) 93 f93) tx oc rl ou tl, q)) rfl rfl (by simp only [iI_add, iI_sub, iI_mul, iI_neg]) rfl (by omega) (by decide) (HWa_92 (by funext j; unfold usc; cases hb : Nat.beq j 92 <;> first | rfl | (rw [Nat.eq_of_beq_eq_true hb]; rfl))) ?_
    refine RQ.seg 4 (pc' := 72) (L' := [some (.ref 80), some (.int (iI (n : Int)))]) (st' := [.int (iI (n : Int)), .ref 93, .int (iI (n : Int)), .ref 93]) (g1 := (HW (usc (usc (usc sc0 8000 0) 8032 (dN D - 1)) 8059 (dU D - 1)) (usc (usc ar0 92 (usz f92 (n : Int) (f92 (n : Int) - ((ar0 114) (3 * (dU D - 1) + (n : Int)))))) 93 f93) tx oc rl ou tl, q)) rfl ?_
    refine RQ.iald (z := (n : Int)) rfl rfl rfl (by omega) (by decide) ?_
    refine RQ.seg 8 (pc' := 85) (L' := [some (.ref 80), some (.int (iI (n : Int)))]) (st' := [.int (((iI 3) * (iI (dU D - 1))) + (iI (n : Int))), .ref 115, .int (iI (f93 (n : Int))), .int (iI (n : Int)), .ref 93]) (g1 := (HW (usc (usc (usc sc0 8000 0) 8032 (dN D - 1)) 8059 (dU D - 1)) (usc (usc ar0 92 (usz f92 (n : Int) (f92 (n : Int) - ((ar0 114) (3 * (dU D - 1) + (n : Int)))))) 93 f93) tx oc rl ou tl, q)) rfl ?_
    refine RQ.iald (z := (3 * (dU D - 1) + (n : Int))) rfl (by simp only [iI_add, iI_sub, iI_mul, iI_neg]) rfl (by omega) (by decide) ?_
    refine RQ.seg 1 (pc' := 87) (L' := [some (.ref 80), some (.int (iI (n : Int)))]) (st' := [.int ((iI (f93 (n : Int))) - (iI ((ar0 115) (3 * (dU D - 1) + (n : Int))))), .int (iI (n : Int)), .ref 93]) (g1 := (HW (usc (usc (usc sc0 8000 0) 8032 (dN D - 1)) 8059 (dU D - 1)) (usc (usc ar0 92 (usz f92 (n : Int) (f92 (n : Int) - ((ar0 114) (3 * (dU D - 1) + (n : Int)))))) 93 f93) tx oc rl ou tl, q)) rfl ?_
    refine RQ.iast (z := (n : Int)) (v := (f93 (n : Int) - ((ar0 115) (3 * (dU D - 1) + (n : Int))))) (g1 := (HW (usc (usc (usc sc0 8000 0) 8032 (dN D - 1)) 8059 (dU D - 1)) (usc (usc ar0 92 (usz f92 (n : Int) (f92 (n : Int) - ((ar0 114) (3 * (dU D - 1) + (n : Int)))))) 93 (usz f93 (n : Int) (f93 (n : Int) - ((ar0 115) (3 * (dU D - 1) + (n : Int)))))) tx oc rl ou tl, q)) rfl rfl (by simp only [iI_add, iI_sub, iI_mul, iI_neg]) rfl (by omega) (by decide) (HWa_93 (by funext j; unfold usc; cases hb : Nat.beq j 93 <;> first | rfl | (rw [Nat.eq_of_beq_eq_true hb]; rfl))) ?_
    refine RQ.seg 2 (pc' := 36) (L' := [some (.ref 80), some (.int ((iI (n : Int)) + (iI 1)))]) (st' := []) (g1 := (HW (usc (usc (usc sc0 8000 0) 8032 (dN D - 1)) 8059 (dU D - 1)) (usc (usc ar0 92 (usz f92 (n : Int) (f92 (n : Int) - ((ar0 114) (3 * (dU D - 1) + (n : Int)))))) 93 (usz f93 (n : Int) (f93 (n : Int) - ((ar0 115) (3 * (dU D - 1) + (n : Int)))))) tx oc rl ou tl, q)) rfl ?_
    refine RQ.to (L' := [some (.ref 80), some (.int (iI ((n : Int) + 1)))]) (st' := []) (by simp only [iI_add, iI_sub, iI_mul, iI_neg]) rfl ?_
    refine m_un_l hF hM hu hk m (n + 1) _ _ (by omega) (fun b b0 b1 => ?_)
    have e9 := hi b b0 b1
    by_cases e : b = (n : Int)
    · subst e; rw [if_neg (by omega), if_neg (by omega)] at e9; rw [usz_s, usz_s, if_pos (by omega), if_pos (by omega), e9.1, e9.2]; exact ⟨rfl, rfl⟩
    · rw [usz_n e, usz_n e]; by_cases e2 : b < (n : Int)
      · rw [if_pos e2, if_pos e2] at e9; rw [if_pos (by omega), if_pos (by omega)]; exact e9
      · rw [if_neg e2, if_neg e2] at e9; rw [if_neg (by omega), if_neg (by omega)]; exact e9
theorem m_undo {K : PK} {d : Nat} {sc : Nat → Int} {ar : Nat → Int → Int} {tx oc : Nat} {rl : Nat → Option Nat} {ou : Nat → Int64} {tl : List PO} {q : Nat × Nat} {nw nb : Int} {W B : Int → Int → Int} (hF : FrOK nw nb W B) (hM : FrM (sc 8024) (sc 8025) (ar 85) (ar 86) nw nb W B) {D : SD} (hO : NtOK nb D) (hN : NtM nb D sc ar) : CQ K (d + 1) 230 [.ref 80] (HW sc ar tx oc rl ou tl, q) (fun r g' => r = some (.int (iI (if 0 < dU D then (dN D - 1) else (-1)))) ∧ ∃ sc' ar', g' = (HW sc' ar' tx oc rl ou tl, q) ∧ Same nmF2 sc sc' ∧ Same nmA2 ar ar' ∧ NtM nb (if 0 < dU D then nun D else D) sc' ar') := by
  have hn := hF.1
  have hm1 := hM.1
  have hm2 := hM.2.1
  have hO1 := hO.1
  have hO2 := hO.2.1
  have hO3 := hO.2.2.1
  refine CQ.of (own := 11) (n := 2) (ini := false) (rt := (some .int)) (cd := cd230) (by decide +kernel) rfl (by decide +kernel) rfl (Nat.le_of_ble_eq_true rfl) ?_
  refine RQ.seg 5 (pc' := 9) (L' := [some (.ref 80), none]) (st' := [.int (iI (sc 8059))]) (g1 := (HW (usc sc 8000 0) ar tx oc rl ou tl, q)) rfl ?_
  refine RQ.to (L' := [some (.ref 80), none]) (st' := [.int (iI (dU D))]) rfl (by rw [show sc 8059 = dU D from hN.2.1]) ?_
  refine RQ.if1 (a := (dU D)) rfl rfl rfl (by omega) (fun (h1 : dU D ≠ 0) => ?_) (fun (h1 : ¬ dU D ≠ 0) => ?_)
  · skip
    refine RQ.seg 3 (pc' := 19) (L' := [some (.ref 80), none]) (st' := [.int (iI (sc 8059)), .ref 80]) (g1 := (HW (usc sc 8000 0) ar tx oc rl ou tl, q)) rfl ?_
    refine RQ.to (L' := [some (.ref 80), none]) (st' := [.int (iI (dU D)), .ref 80]) rfl (by rw [show sc 8059 = dU D from hN.2.1]) ?_
    refine RQ.seg 2 (pc' := 21) (L' := [some (.ref 80), none]) (st' := [.int ((iI (dU D)) - (iI 1)), .ref 80]) (g1 := (HW (usc sc 8000 0) ar tx oc rl ou tl, q)) rfl ?_
    refine RQ.to (L' := [some (.ref 80), none]) (st' := [.int (iI (dU D - 1)), .ref 80]) rfl (by simp only [iI_add, iI_sub, iI_mul, iI_neg]) ?_
    refine RQ.seg 4 (pc' := 29) (L' := [some (.ref 80), none]) (st' := [.int (iI (sc 8032)), .ref 80]) (g1 := (HW (usc (usc sc 8000 0) 8059 (dU D - 1)) ar tx oc rl ou tl, q)) rfl ?_
    refine RQ.to (L' := [some (.ref 80), none]) (st' := [.int (iI (dN D)), .ref 80]) rfl (by rw [show sc 8032 = dN D from hN.1]) ?_
    refine RQ.seg 2 (pc' := 31) (L' := [some (.ref 80), none]) (st' := [.int ((iI (dN D)) - (iI 1)), .ref 80]) (g1 := (HW (usc (usc sc 8000 0) 8059 (dU D - 1)) ar tx oc rl ou tl, q)) rfl ?_
    refine RQ.to (L' := [some (.ref 80), none]) (st' := [.int (iI (dN D - 1)), .ref 80]) rfl (by simp only [iI_add, iI_sub, iI_mul, iI_neg]) ?_
    refine RQ.seg 3 (pc' := 36) (L' := [some (.ref 80), some (.int (iI 0))]) (st' := []) (g1 := (HW (usc (usc (usc sc 8000 0) 8032 (dN D - 1)) 8059 (dU D - 1)) ar tx oc rl ou tl, q)) rfl ?_
    refine RQ.hp (g1 := (HW (usc (usc (usc sc 8000 0) 8032 (dN D - 1)) 8059 (dU D - 1)) (usc ar 92 (ar 92)) tx oc rl ou tl, q)) (congrArg (fun a => (HW (usc (usc (usc sc 8000 0) 8032 (dN D - 1)) 8059 (dU D - 1)) a tx oc rl ou tl, q)) (show ar = usc ar 92 (ar 92) by funext j; unfold usc; cases hb : Nat.beq j 92 <;> first | rfl | (rw [Nat.eq_of_beq_eq_true hb]; rfl))) ?_
    refine RQ.hp (g1 := (HW (usc (usc (usc sc 8000 0) 8032 (dN D - 1)) 8059 (dU D - 1)) (usc (usc ar 92 (ar 92)) 93 (ar 93)) tx oc rl ou tl, q)) (congrArg (fun a => (HW (usc (usc (usc sc 8000 0) 8032 (dN D - 1)) 8059 (dU D - 1)) a tx oc rl ou tl, q)) (show usc ar 92 (ar 92) = usc (usc ar 92 (ar 92)) 93 (ar 93) by funext j; unfold usc; cases hb : Nat.beq j 93 <;> first | rfl | (rw [Nat.eq_of_beq_eq_true hb]; rfl))) ?_
    refine m_un_l (sc0 := sc) (ar0 := ar) (D := D) hF hM (by omega) (fun f92 f93 e3 => ?_) nb.toNat 0 _ _ (by omega) (fun b b0 b1 => ⟨(if_neg (by omega)).symm, (if_neg (by omega)).symm⟩)
    rw [if_pos (by omega), if_pos (by omega)]
    exact ⟨rfl, _, _, rfl, (by repeat (first | exact Same.rf | refine Same.us rfl ?_)), (by repeat (first | exact Same.rf | refine Same.us rfl ?_)), NtM.un (by omega) hO (by omega) hN rfl rfl e3 rfl rfl⟩
  · skip
    refine RQ.seg 1 (pc' := 13) (L' := [some (.ref 80), none]) (st' := [.int (iI (-1))]) (g1 := (HW (usc sc 8000 0) ar tx oc rl ou tl, q)) rfl ?_
    refine RQ.ret rfl rfl ?_
    rw [if_neg (by omega), if_neg (by omega)]
    exact ⟨rfl, _, _, rfl, (by repeat (first | exact Same.rf | refine Same.us rfl ?_)), (by repeat (first | exact Same.rf | refine Same.us rfl ?_)), hN⟩
