/-! fault and text of the reference at a front, by wip/tools -/
/-! fault and text of the reference at a front -/
theorem frn_ok {tp : List Int} : ∀ (m : Nat) (S : FS), FsOK tp S → FsOK tp (frn tp m S)
  | 0, S, h => h
  | m + 1, S, h => by
    have hT := (clz_ok h).1.1
    have hs := sk_r (tp := tp) hT.1.2
    have h1 := hT.1
    rw [frn]
    split
    · exact hT
    · split
      · exact hT.at (by omega)
      · split
        · rename_i h59
          have hp := tch_pos (tp := tp) (p := sk tp (fA (cls tp S))) (by show lk tp (fA (cls tp S)) ≠ 0; omega)
          exact frn_ok m _ (hT.at (by omega))
        · exact hT.at (by omega)
theorem fr9_ok (tp : List Int) : FsOK tp (fr9 tp) := frn_ok 9 fr0 fr0_ok
def tmF : List Nat := [1401, 1402, 1404, 1503, 1504, 2601, 2602, 2701, 2703, 5112, 7203, 7204, 8000, 8006, 8008, 8009, 8010, 8011, 8012, 8013, 8014, 8017, 8024, 8025, 8026, 8027, 8028, 8032, 8046, 8047, 8052, 8056, 8059, 8064, 8065]
def tmA : List Nat := [17, 18, 19, 20, 22, 23, 24, 25, 28, 29, 52, 53, 54, 55, 56, 57, 58, 59, 60, 61, 62, 70, 74, 75, 76, 78, 79, 85, 86, 87, 88, 89, 90, 91, 92, 93, 94, 95, 96, 97, 98, 99, 100, 101, 102, 103, 104, 105, 106, 107, 108, 109, 110]
theorem us4 {f g : Int → Int} {b : Int} (h0 : 0 ≤ b) (h1 : b < 4) : usz (usz (usz (usz f 0 (g 0)) 1 (g 1)) 2 (g 2)) 3 (g 3) b = g b := by
  rcases (show b = 0 ∨ b = 1 ∨ b = 2 ∨ b = 3 by omega) with rfl | rfl | rfl | rfl <;> (repeat (first | rw [usz_s] | rw [usz_n (by omega)]))
theorem m_fault0 {K : PK} {d : Nat} {sc : Nat → Int} {ar : Nat → Int → Int} {tx oc : Nat} {rl : Nat → Option Nat} {ou : Nat → Int64} {tl : List PO} {q : Nat × Nat} {tp : List Int} (ht : TpOK tp) (hs : sc 8006 = (tp.length : Int)) (hl : LAt sgb (ar 81) tp) : CQ K (d + 8) 182 [.ref 80, .int (iI 0)] (HW sc ar tx oc rl ou tl, q) (fun r g' => r = some (.int (iI (frF tp))) ∧ ∃ sc' ar', g' = (HW sc' ar' 81 oc rl ou tl, q) ∧ Same scF sc sc' ∧ Same scA ar ar' ∧ (frF tp = -1 → FdM (fr9 tp) sc' ar')) := by
  have ht1 := ht.1
  refine CQ.of (own := 11) (n := 2) (ini := false) (rt := (some .int)) (cd := cd182) (by decide +kernel) rfl (by decide +kernel) rfl (Nat.le_of_ble_eq_true rfl) ?_
  refine RQ.seg 7 (pc' := 9) (L' := [some (.ref 80), some (.int (iI 0))]) (st' := [.long (lL 1), .long (lL 0), .long (lL 0)]) (g1 := (HW (usc sc 8000 0) ar tx oc rl ou tl, q)) rfl ?_
  refine RQ.call rfl rfl (CallR.up (d := 1) (m_isIn_t (d := 0) (a := 0) (b := 0) (c := 1) (by omega) (by omega) (by omega) (by omega)) (by omega)) ?_
  refine RQ.seg 4 (pc' := 23) (L' := [some (.ref 80), some (.int (iI 0))]) (st' := [.ref 80]) (g1 := (HW (usc sc 8000 0) ar tx oc rl ou tl, q)) rfl ?_
  refine RQ.callQ rfl rfl (m_ffront (d := d) (sc := usc sc 8000 0) (ar := ar) ht hs hl) (fun rv g1 hc9 => ?_)
  obtain ⟨rfl, sc1, ar1, rfl, hs1, ha1, e1, hX1, rw1⟩ := hc9
  refine RQ.seg 3 (pc' := 46) (L' := [some (.ref 80), some (.int (iI 0))]) (st' := [.int (iI (sc1 8011))]) (g1 := (HW sc1 ar1 81 oc rl ou tl, q)) rfl ?_
  refine RQ.ret rfl rfl ?_
  exact ⟨by rw [e1], _, _, rfl, Same.tr (by repeat (first | exact Same.rf | refine Same.us rfl ?_)) hs1, ha1, hX1⟩
theorem m_faultN {K : PK} {d : Nat} {sc : Nat → Int} {ar : Nat → Int → Int} {tx oc : Nat} {rl : Nat → Option Nat} {ou : Nat → Int64} {tl : List PO} {q : Nat × Nat} {a : Int} (ra : -2147483648 ≤ a ∧ a < 2147483648) (ha : ¬ (0 ≤ a ∧ a ≤ 1)) : CallR K (d + 2) 182 [.ref 80, .int (iI a)] (HW sc ar tx oc rl ou tl, q) (some (.int (iI (-2)))) (HW (usc sc 8000 0) ar tx oc rl ou tl, q) := by
  apply CQ.x
  refine CQ.of (own := 11) (n := 2) (ini := false) (rt := (some .int)) (cd := cd182) (by decide +kernel) rfl (by decide +kernel) rfl (Nat.le_of_ble_eq_true rfl) ?_
  refine RQ.seg 4 (pc' := 6) (L' := [some (.ref 80), some (.int (iI a))]) (st' := [.int (iI a)]) (g1 := (HW (usc sc 8000 0) ar tx oc rl ou tl, q)) rfl ?_
  refine RQ.seg 1 (pc' := 7) (L' := [some (.ref 80), some (.int (iI a))]) (st' := [.long ((iI a).toInt64)]) (g1 := (HW (usc sc 8000 0) ar tx oc rl ou tl, q)) rfl ?_
  refine RQ.to (L' := [some (.ref 80), some (.int (iI a))]) (st' := [.long (lL a)]) rfl (by rw [iI_64 (by omega)]) ?_
  refine RQ.seg 2 (pc' := 9) (L' := [some (.ref 80), some (.int (iI a))]) (st' := [.long (lL 1), .long (lL 0), .long (lL a)]) (g1 := (HW (usc sc 8000 0) ar tx oc rl ou tl, q)) rfl ?_
  refine RQ.call rfl rfl (CallR.up (d := 1) (m_isIn_f (d := 0) (a := a) (b := 0) (c := 1) (by omega) (by omega) (by omega) (by omega)) (by omega)) ?_
  refine RQ.seg 2 (pc' := 17) (L' := [some (.ref 80), some (.int (iI a))]) (st' := [.int (iI (-2))]) (g1 := (HW (usc sc 8000 0) ar tx oc rl ou tl, q)) rfl ?_
  refine RQ.ret rfl rfl ?_
  exact ⟨rfl, rfl⟩
theorem m_tw_l {K : PK} {d : Nat} {sc : Nat → Int} {ar : Nat → Int → Int} {oc : Nat} {rl : Nat → Option Nat} {ou : Nat → Int64} {tl : List PO} {q : Nat × Nat} {Q : Option Value → PG → Prop} {n : Int} : ∀ (m : Nat) (i : Int) (f : Int → Int) (hi : 0 ≤ i ∧ i + m = 16) (hf : ∀ k, 0 ≤ k → k < i → f k = ar 88 k) (hk : ∀ f', (∀ k, 0 ≤ k → k < 16 → f' k = ar 88 k) → RQ K (d + 8) 11 false (some .int) cd183 157 [some (.ref 80), some (.int (iI 0)), some (.int (iI n)), some (.int (iI 16))] [] (HW sc (usc ar 85 f') 81 oc rl ou tl, q) Q), RQ K (d + 8) 11 false (some .int) cd183 133 [some (.ref 80), some (.int (iI 0)), some (.int (iI n)), some (.int (iI i))] [] (HW sc (usc ar 85 f) 81 oc rl ou tl, q) Q
  | 0, i, f, hi, hf, hk => by
    refine RQ.seg 2 (pc' := 136) (L' := [some (.ref 80), some (.int (iI 0)), some (.int (iI n)), some (.int (iI i))]) (st' := [.int (iI 16), .int (iI i)]) (g1 := (HW sc (usc ar 85 f) 81 oc rl ou tl, q)) rfl ?_
    refine RQ.if2 (a := i) (b := 16) rfl rfl rfl rfl (by omega) (by omega) (fun _ => ?_) (fun (q : ¬ 16 ≤ i) => absurd (show 16 ≤ i from by omega) q)
    rw [show i = 16 by omega]
    exact hk f (fun k k0 k1 => hf k k0 (by omega))
  | m + 1, i, f, hi, hf, hk => by
    refine RQ.seg 2 (pc' := 136) (L' := [some (.ref 80), some (.int (iI 0)), some (.int (iI n)), some (.int (iI i))]) (st' := [.int (iI 16), .int (iI i)]) (g1 := (HW sc (usc ar 85 f) 81 oc rl ou tl, q)) rfl ?_
    refine RQ.if2 (a := i) (b := 16) rfl rfl rfl rfl (by omega) (by omega) (fun (q : 16 ≤ i) => absurd q (show ¬ 16 ≤ i from by omega)) (fun _ => ?_)
    refine RQ.seg 6 (pc' := 149) (L' := [some (.ref 80), some (.int (iI 0)), some (.int (iI n)), some (.int (iI i))]) (st' := [.int (iI i), .ref 88, .int (iI i), .ref 85]) (g1 := (HW sc (usc ar 85 f) 81 oc rl ou tl, q)) rfl ?_
    refine RQ.iald (z := i) rfl rfl rfl (by omega) (by decide) ?_
    refine RQ.iast (z := i) (v := ((ar 88) i)) (g1 := (HW sc (usc ar 85 (usz f i ((ar 88) i))) 81 oc rl ou tl, q)) rfl rfl rfl rfl (by omega) (by decide) (HWa_85 (by funext j; unfold usc; cases hb : Nat.beq j 85 <;> first | rfl | (rw [Nat.eq_of_beq_eq_true hb]; rfl))) ?_
    refine RQ.seg 2 (pc' := 133) (L' := [some (.ref 80), some (.int (iI 0)), some (.int (iI n)), some (.int ((iI i) + (iI 1)))]) (st' := []) (g1 := (HW sc (usc ar 85 (usz f i ((ar 88) i))) 81 oc rl ou tl, q)) rfl ?_
    refine RQ.to (L' := [some (.ref 80), some (.int (iI 0)), some (.int (iI n)), some (.int (iI (i + 1)))]) (st' := []) (by simp only [iI_add, iI_sub, iI_mul, iI_neg]) rfl ?_
    refine m_tw_l m (i + 1) _ (by omega) (fun k k0 k1 => ?_) hk
    by_cases ek : k = i
    · rw [ek, usz_s]
    · rw [usz_n ek]; exact hf k k0 (by omega)
theorem m_tb_l {K : PK} {d : Nat} {sc : Nat → Int} {ar : Nat → Int → Int} {oc : Nat} {rl : Nat → Option Nat} {ou : Nat → Int64} {tl : List PO} {q : Nat × Nat} {Q : Option Value → PG → Prop} {n : Int} : ∀ (m : Nat) (i : Int) (f : Int → Int) (hi : 0 ≤ i ∧ i + m = 9) (hf : ∀ k, 0 ≤ k → k < i → f k = ar 89 k) (hk : ∀ f', (∀ k, 0 ≤ k → k < 9 → f' k = ar 89 k) → RQ K (d + 8) 11 false (some .int) cd183 183 [some (.ref 80), some (.int (iI 0)), some (.int (iI n)), some (.int (iI 9))] [] (HW sc (usc ar 86 f') 81 oc rl ou tl, q) Q), RQ K (d + 8) 11 false (some .int) cd183 159 [some (.ref 80), some (.int (iI 0)), some (.int (iI n)), some (.int (iI i))] [] (HW sc (usc ar 86 f) 81 oc rl ou tl, q) Q
  | 0, i, f, hi, hf, hk => by
    refine RQ.seg 2 (pc' := 162) (L' := [some (.ref 80), some (.int (iI 0)), some (.int (iI n)), some (.int (iI i))]) (st' := [.int (iI 9), .int (iI i)]) (g1 := (HW sc (usc ar 86 f) 81 oc rl ou tl, q)) rfl ?_
    refine RQ.if2 (a := i) (b := 9) rfl rfl rfl rfl (by omega) (by omega) (fun _ => ?_) (fun (q : ¬ 9 ≤ i) => absurd (show 9 ≤ i from by omega) q)
    rw [show i = 9 by omega]
    exact hk f (fun k k0 k1 => hf k k0 (by omega))
  | m + 1, i, f, hi, hf, hk => by
    refine RQ.seg 2 (pc' := 162) (L' := [some (.ref 80), some (.int (iI 0)), some (.int (iI n)), some (.int (iI i))]) (st' := [.int (iI 9), .int (iI i)]) (g1 := (HW sc (usc ar 86 f) 81 oc rl ou tl, q)) rfl ?_
    refine RQ.if2 (a := i) (b := 9) rfl rfl rfl rfl (by omega) (by omega) (fun (q : 9 ≤ i) => absurd q (show ¬ 9 ≤ i from by omega)) (fun _ => ?_)
    refine RQ.seg 6 (pc' := 175) (L' := [some (.ref 80), some (.int (iI 0)), some (.int (iI n)), some (.int (iI i))]) (st' := [.int (iI i), .ref 89, .int (iI i), .ref 86]) (g1 := (HW sc (usc ar 86 f) 81 oc rl ou tl, q)) rfl ?_
    refine RQ.iald (z := i) rfl rfl rfl (by omega) (by decide) ?_
    refine RQ.iast (z := i) (v := ((ar 89) i)) (g1 := (HW sc (usc ar 86 (usz f i ((ar 89) i))) 81 oc rl ou tl, q)) rfl rfl rfl rfl (by omega) (by decide) (HWa_86 (by funext j; unfold usc; cases hb : Nat.beq j 86 <;> first | rfl | (rw [Nat.eq_of_beq_eq_true hb]; rfl))) ?_
    refine RQ.seg 2 (pc' := 159) (L' := [some (.ref 80), some (.int (iI 0)), some (.int (iI n)), some (.int ((iI i) + (iI 1)))]) (st' := []) (g1 := (HW sc (usc ar 86 (usz f i ((ar 89) i))) 81 oc rl ou tl, q)) rfl ?_
    refine RQ.to (L' := [some (.ref 80), some (.int (iI 0)), some (.int (iI n)), some (.int (iI (i + 1)))]) (st' := []) (by simp only [iI_add, iI_sub, iI_mul, iI_neg]) rfl ?_
    refine m_tb_l m (i + 1) _ (by omega) (fun k k0 k1 => ?_) hk
    by_cases ek : k = i
    · rw [ek, usz_s]
    · rw [usz_n ek]; exact hf k k0 (by omega)
theorem m_text0 {K : PK} {d : Nat} {sc : Nat → Int} {ar : Nat → Int → Int} {tx oc : Nat} {rl : Nat → Option Nat} {ou : Nat → Int64} {tl : List PO} {q : Nat × Nat} {tp : List Int} (ht : TpOK tp) (hs : sc 8006 = (tp.length : Int)) (hl : LAt sgb (ar 81) tp) : CQ K (d + 9) 183 [.ref 80, .int (iI 0)] (HW sc ar tx oc rl ou tl, q) (fun r g' => r = some (.int (iI (sText0 tp))) ∧ ∃ sc' ar', g' = (HW sc' ar' 81 oc rl ou tl, q) ∧ Same tmF sc sc' ∧ Same tmA ar ar' ∧ (frF tp = -1 → FrM (sc' 8024) (sc' 8025) (ar' 85) (ar' 86) (fW (fr9 tp)) (fB (fr9 tp)) (gW (fr9 tp)) (gB (fr9 tp)) ∧ PMx (fW (fr9 tp)) (fB (fr9 tp)) (gW (fr9 tp)) (gB (fr9 tp)) (ar' 94) (ar' 95) ∧ SeM (fB (fr9 tp)) (zB (gL (fr9 tp))) sc' ar' ∧ sc' 8006 = 0 ∧ sc' 8065 = 0) ∧ (frF tp ≠ -1 → Same scF sc sc' ∧ Same scA ar ar')) := by
  have ht1 := ht.1
  have hfr := frF_r ht
  refine CQ.of (own := 11) (n := 4) (ini := false) (rt := (some .int)) (cd := cd183) (by decide +kernel) rfl (by decide +kernel) rfl (Nat.le_of_ble_eq_true rfl) ?_
  refine RQ.seg 7 (pc' := 9) (L' := [some (.ref 80), some (.int (iI 0)), none, none]) (st' := [.long (lL 1), .long (lL 0), .long (lL 0)]) (g1 := (HW (usc sc 8000 0) ar tx oc rl ou tl, q)) rfl ?_
  refine RQ.call rfl rfl (CallR.up (d := 1) (m_isIn_t (d := 0) (a := 0) (b := 0) (c := 1) (by omega) (by omega) (by omega) (by omega)) (by omega)) ?_
  refine RQ.seg 6 (pc' := 30) (L' := [some (.ref 80), some (.int (iI 0)), none, none]) (st' := [.int (iI 0), .ref 80]) (g1 := (HW (usc sc 8000 0) ar tx oc rl ou tl, q)) rfl ?_
  refine RQ.callQ rfl rfl (m_fault0 (d := d) (sc := usc sc 8000 0) (ar := ar) ht hs hl) (fun rv g1 hc9 => ?_)
  obtain ⟨rfl, sc1, ar1, rfl, hs1, ha1, hX1⟩ := hc9
  have hsF : Same scF sc sc1 := Same.tr (by repeat (first | exact Same.rf | refine Same.us rfl ?_)) hs1
  have hln : sc1 8006 = (tp.length : Int) := (hsF 8006 rfl).trans hs
  refine RQ.seg 1 (pc' := 34) (L' := [some (.ref 80), some (.int (iI 0)), none, none]) (st' := [.int (iI (-1)), .int (iI (frF tp))]) (g1 := (HW sc1 ar1 81 oc rl ou tl, q)) rfl ?_
  refine RQ.if2 (a := (frF tp)) (b := (-1)) rfl rfl rfl rfl (by omega) (by omega) (fun (h1 : frF tp = (-1)) => ?_) (fun (h1 : ¬ frF tp = (-1)) => ?_)
  · skip
    obtain ⟨z1, z2, z3, z4, z5, z6, z7⟩ := hX1 (by omega)
    have hF := fr9_FrOK (fr9_ok tp)
    have hO := fr9_ok tp
    have hO2 := hO.2.1
    have hO3 := hO.2.2.1
    refine RQ.seg 2 (pc' := 43) (L' := [some (.ref 80), some (.int (iI 0)), none, none]) (st' := [.int (iI (sc1 8006))]) (g1 := (HW sc1 ar1 81 oc rl ou tl, q)) rfl ?_
    refine RQ.to (L' := [some (.ref 80), some (.int (iI 0)), none, none]) (st' := [.int (iI (tp.length : Int))]) rfl (by rw [show sc1 8006 = (tp.length : Int) from hln]) ?_
    refine RQ.seg 17 (pc' := 133) (L' := [some (.ref 80), some (.int (iI 0)), some (.int (iI (tp.length : Int))), some (.int (iI 0))]) (st' := []) (g1 := (HW (usc (usc (usc sc1 8006 0) 8024 (sc1 8026)) 8025 (sc1 8027)) ar1 81 oc rl ou tl, q)) rfl ?_
    refine RQ.hp (g1 := (HW (usc (usc (usc sc1 8006 0) 8024 (sc1 8026)) 8025 (sc1 8027)) (usc ar1 85 (ar1 85)) 81 oc rl ou tl, q)) (congrArg (fun a => (HW (usc (usc (usc sc1 8006 0) 8024 (sc1 8026)) 8025 (sc1 8027)) a 81 oc rl ou tl, q)) (show ar1 = usc ar1 85 (ar1 85) by funext j; unfold usc; cases hb : Nat.beq j 85 <;> first | rfl | (rw [Nat.eq_of_beq_eq_true hb]; rfl))) ?_
    refine m_tw_l (sc := usc (usc (usc sc1 8006 0) 8024 (sc1 8026)) 8025 (sc1 8027)) (ar := ar1) 16 0 (ar1 85) (by omega) (fun k k0 k1 => absurd k1 (by omega)) (fun f85 k85 => ?_)
    refine RQ.seg 2 (pc' := 159) (L' := [some (.ref 80), some (.int (iI 0)), some (.int (iI (tp.length : Int))), some (.int (iI 0))]) (st' := []) (g1 := (HW (usc (usc (usc sc1 8006 0) 8024 (sc1 8026)) 8025 (sc1 8027)) (usc ar1 85 f85) 81 oc rl ou tl, q)) rfl ?_
    refine RQ.hp (g1 := (HW (usc (usc (usc sc1 8006 0) 8024 (sc1 8026)) 8025 (sc1 8027)) (usc (usc ar1 85 f85) 86 (ar1 86)) 81 oc rl ou tl, q)) (congrArg (fun a => (HW (usc (usc (usc sc1 8006 0) 8024 (sc1 8026)) 8025 (sc1 8027)) a 81 oc rl ou tl, q)) (show usc ar1 85 f85 = usc (usc ar1 85 f85) 86 (ar1 86) by funext j; unfold usc; cases hb : Nat.beq j 86 <;> first | rfl | (rw [Nat.eq_of_beq_eq_true hb]; rfl))) ?_
    refine m_tb_l (sc := usc (usc (usc sc1 8006 0) 8024 (sc1 8026)) 8025 (sc1 8027)) (ar := usc ar1 85 f85) 9 0 (ar1 86) (by omega) (fun k k0 k1 => absurd k1 (by omega)) (fun f86 k86 => ?_)
    have hM1 : FrM (sc1 8026) (sc1 8027) f85 f86 (fW (fr9 tp)) (fB (fr9 tp)) (gW (fr9 tp)) (gB (fr9 tp)) := ⟨z3, z4, fun w w0 w1 => ⟨(k85 _ (by omega) (by omega)).trans (by rw [← z5 w 0 w0 w1 (by omega) (by omega), Int.add_zero]), (k85 _ (by omega) (by omega)).trans (z5 w 1 w0 w1 (by omega) (by omega)), (k85 _ (by omega) (by omega)).trans (z5 w 2 w0 w1 (by omega) (by omega)), (k85 _ (by omega) (by omega)).trans (z5 w 3 w0 w1 (by omega) (by omega))⟩, fun w w0 w1 => ⟨(k86 _ (by omega) (by omega)).trans (by show ar1 89 _ = _; rw [← z6 w 0 w0 w1 (by omega) (by omega), Int.add_zero]), (k86 _ (by omega) (by omega)).trans (z6 w 1 w0 w1 (by omega) (by omega)), (k86 _ (by omega) (by omega)).trans (z6 w 2 w0 w1 (by omega) (by omega))⟩⟩
    refine RQ.seg 11 (pc' := 200) (L' := [some (.ref 80), some (.int (iI 0)), some (.int (iI (tp.length : Int))), some (.int (iI 0))]) (st' := [.int (iI 0), .ref 90, .int (iI 0), .ref 87]) (g1 := (HW (usc (usc (usc sc1 8006 0) 8024 (sc1 8026)) 8025 (sc1 8027)) (usc (usc ar1 85 f85) 86 f86) 81 oc rl ou tl, q)) rfl ?_
    refine RQ.iald (z := 0) rfl rfl rfl (by omega) (by decide) ?_
    refine RQ.iast (z := 0) (v := ((ar1 90) 0)) (g1 := (HW (usc (usc (usc sc1 8006 0) 8024 (sc1 8026)) 8025 (sc1 8027)) (usc (usc (usc ar1 85 f85) 86 f86) 87 (usz (ar1 87) 0 ((ar1 90) 0))) 81 oc rl ou tl, q)) rfl rfl rfl rfl (by omega) (by decide) (HWa_87 rfl) ?_
    refine RQ.seg 11 (pc' := 200) (L' := [some (.ref 80), some (.int (iI 0)), some (.int (iI (tp.length : Int))), some (.int (iI 1))]) (st' := [.int (iI 1), .ref 90, .int (iI 1), .ref 87]) (g1 := (HW (usc (usc (usc sc1 8006 0) 8024 (sc1 8026)) 8025 (sc1 8027)) (usc (usc (usc ar1 85 f85) 86 f86) 87 (usz (ar1 87) 0 ((ar1 90) 0))) 81 oc rl ou tl, q)) rfl ?_
    refine RQ.iald (z := 1) rfl rfl rfl (by omega) (by decide) ?_
    refine RQ.iast (z := 1) (v := ((ar1 90) 1)) (g1 := (HW (usc (usc (usc sc1 8006 0) 8024 (sc1 8026)) 8025 (sc1 8027)) (usc (usc (usc ar1 85 f85) 86 f86) 87 (usz (usz (ar1 87) 0 ((ar1 90) 0)) 1 ((ar1 90) 1))) 81 oc rl ou tl, q)) rfl rfl rfl rfl (by omega) (by decide) (HWa_87 (by funext j; unfold usc; cases hb : Nat.beq j 87 <;> first | rfl | (rw [Nat.eq_of_beq_eq_true hb]; rfl))) ?_
    refine RQ.seg 11 (pc' := 200) (L' := [some (.ref 80), some (.int (iI 0)), some (.int (iI (tp.length : Int))), some (.int (iI 2))]) (st' := [.int (iI 2), .ref 90, .int (iI 2), .ref 87]) (g1 := (HW (usc (usc (usc sc1 8006 0) 8024 (sc1 8026)) 8025 (sc1 8027)) (usc (usc (usc ar1 85 f85) 86 f86) 87 (usz (usz (ar1 87) 0 ((ar1 90) 0)) 1 ((ar1 90) 1))) 81 oc rl ou tl, q)) rfl ?_
    refine RQ.iald (z := 2) rfl rfl rfl (by omega) (by decide) ?_
    refine RQ.iast (z := 2) (v := ((ar1 90) 2)) (g1 := (HW (usc (usc (usc sc1 8006 0) 8024 (sc1 8026)) 8025 (sc1 8027)) (usc (usc (usc ar1 85 f85) 86 f86) 87 (usz (usz (usz (ar1 87) 0 ((ar1 90) 0)) 1 ((ar1 90) 1)) 2 ((ar1 90) 2))) 81 oc rl ou tl, q)) rfl rfl rfl rfl (by omega) (by decide) (HWa_87 (by funext j; unfold usc; cases hb : Nat.beq j 87 <;> first | rfl | (rw [Nat.eq_of_beq_eq_true hb]; rfl))) ?_
    refine RQ.seg 11 (pc' := 200) (L' := [some (.ref 80), some (.int (iI 0)), some (.int (iI (tp.length : Int))), some (.int (iI 3))]) (st' := [.int (iI 3), .ref 90, .int (iI 3), .ref 87]) (g1 := (HW (usc (usc (usc sc1 8006 0) 8024 (sc1 8026)) 8025 (sc1 8027)) (usc (usc (usc ar1 85 f85) 86 f86) 87 (usz (usz (usz (ar1 87) 0 ((ar1 90) 0)) 1 ((ar1 90) 1)) 2 ((ar1 90) 2))) 81 oc rl ou tl, q)) rfl ?_
    refine RQ.iald (z := 3) rfl rfl rfl (by omega) (by decide) ?_
    refine RQ.iast (z := 3) (v := ((ar1 90) 3)) (g1 := (HW (usc (usc (usc sc1 8006 0) 8024 (sc1 8026)) 8025 (sc1 8027)) (usc (usc (usc ar1 85 f85) 86 f86) 87 (usz (usz (usz (usz (ar1 87) 0 ((ar1 90) 0)) 1 ((ar1 90) 1)) 2 ((ar1 90) 2)) 3 ((ar1 90) 3))) 81 oc rl ou tl, q)) rfl rfl rfl rfl (by omega) (by decide) (HWa_87 (by funext j; unfold usc; cases hb : Nat.beq j 87 <;> first | rfl | (rw [Nat.eq_of_beq_eq_true hb]; rfl))) ?_
    refine RQ.seg 14 (pc' := 221) (L' := [some (.ref 80), some (.int (iI 0)), some (.int (iI (tp.length : Int))), some (.int (iI 0))]) (st' := [.int (iI (-1)), .int (iI 0), .ref 91]) (g1 := (HW (usc (usc (usc sc1 8006 0) 8024 (sc1 8026)) 8025 (sc1 8027)) (usc (usc (usc ar1 85 f85) 86 f86) 87 (usz (usz (usz (usz (ar1 87) 0 ((ar1 90) 0)) 1 ((ar1 90) 1)) 2 ((ar1 90) 2)) 3 ((ar1 90) 3))) 81 oc rl ou tl, q)) rfl ?_
    refine RQ.iast (z := 0) (v := (-1)) (g1 := (HW (usc (usc (usc sc1 8006 0) 8024 (sc1 8026)) 8025 (sc1 8027)) (usc (usc (usc (usc ar1 85 f85) 86 f86) 87 (usz (usz (usz (usz (ar1 87) 0 ((ar1 90) 0)) 1 ((ar1 90) 1)) 2 ((ar1 90) 2)) 3 ((ar1 90) 3))) 91 (usz (ar1 91) 0 (-1))) 81 oc rl ou tl, q)) rfl rfl rfl rfl (by omega) (by decide) (HWa_91 rfl) ?_
    refine RQ.seg 4 (pc' := 228) (L' := [some (.ref 80), some (.int (iI 0)), some (.int (iI (tp.length : Int))), some (.int (iI 0))]) (st' := [.int (iI 0), .int (iI 0), .ref 92]) (g1 := (HW (usc (usc (usc sc1 8006 0) 8024 (sc1 8026)) 8025 (sc1 8027)) (usc (usc (usc (usc ar1 85 f85) 86 f86) 87 (usz (usz (usz (usz (ar1 87) 0 ((ar1 90) 0)) 1 ((ar1 90) 1)) 2 ((ar1 90) 2)) 3 ((ar1 90) 3))) 91 (usz (ar1 91) 0 (-1))) 81 oc rl ou tl, q)) rfl ?_
    refine RQ.iast (z := 0) (v := 0) (g1 := (HW (usc (usc (usc sc1 8006 0) 8024 (sc1 8026)) 8025 (sc1 8027)) (usc (usc (usc (usc (usc ar1 85 f85) 86 f86) 87 (usz (usz (usz (usz (ar1 87) 0 ((ar1 90) 0)) 1 ((ar1 90) 1)) 2 ((ar1 90) 2)) 3 ((ar1 90) 3))) 91 (usz (ar1 91) 0 (-1))) 92 (usz (ar1 92) 0 0)) 81 oc rl ou tl, q)) rfl rfl rfl rfl (by omega) (by decide) (HWa_92 rfl) ?_
    refine RQ.seg 4 (pc' := 235) (L' := [some (.ref 80), some (.int (iI 0)), some (.int (iI (tp.length : Int))), some (.int (iI 0))]) (st' := [.int (iI 0), .int (iI 0), .ref 93]) (g1 := (HW (usc (usc (usc sc1 8006 0) 8024 (sc1 8026)) 8025 (sc1 8027)) (usc (usc (usc (usc (usc ar1 85 f85) 86 f86) 87 (usz (usz (usz (usz (ar1 87) 0 ((ar1 90) 0)) 1 ((ar1 90) 1)) 2 ((ar1 90) 2)) 3 ((ar1 90) 3))) 91 (usz (ar1 91) 0 (-1))) 92 (usz (ar1 92) 0 0)) 81 oc rl ou tl, q)) rfl ?_
    refine RQ.iast (z := 0) (v := 0) (g1 := (HW (usc (usc (usc sc1 8006 0) 8024 (sc1 8026)) 8025 (sc1 8027)) (usc (usc (usc (usc (usc (usc ar1 85 f85) 86 f86) 87 (usz (usz (usz (usz (ar1 87) 0 ((ar1 90) 0)) 1 ((ar1 90) 1)) 2 ((ar1 90) 2)) 3 ((ar1 90) 3))) 91 (usz (ar1 91) 0 (-1))) 92 (usz (ar1 92) 0 0)) 93 (usz (ar1 93) 0 0)) 81 oc rl ou tl, q)) rfl rfl rfl rfl (by omega) (by decide) (HWa_93 rfl) ?_
    refine RQ.seg 9 (pc' := 221) (L' := [some (.ref 80), some (.int (iI 0)), some (.int (iI (tp.length : Int))), some (.int (iI 1))]) (st' := [.int (iI (-1)), .int (iI 1), .ref 91]) (g1 := (HW (usc (usc (usc sc1 8006 0) 8024 (sc1 8026)) 8025 (sc1 8027)) (usc (usc (usc (usc (usc (usc ar1 85 f85) 86 f86) 87 (usz (usz (usz (usz (ar1 87) 0 ((ar1 90) 0)) 1 ((ar1 90) 1)) 2 ((ar1 90) 2)) 3 ((ar1 90) 3))) 91 (usz (ar1 91) 0 (-1))) 92 (usz (ar1 92) 0 0)) 93 (usz (ar1 93) 0 0)) 81 oc rl ou tl, q)) rfl ?_
    refine RQ.iast (z := 1) (v := (-1)) (g1 := (HW (usc (usc (usc sc1 8006 0) 8024 (sc1 8026)) 8025 (sc1 8027)) (usc (usc (usc (usc (usc (usc ar1 85 f85) 86 f86) 87 (usz (usz (usz (usz (ar1 87) 0 ((ar1 90) 0)) 1 ((ar1 90) 1)) 2 ((ar1 90) 2)) 3 ((ar1 90) 3))) 91 (usz (usz (ar1 91) 0 (-1)) 1 (-1))) 92 (usz (ar1 92) 0 0)) 93 (usz (ar1 93) 0 0)) 81 oc rl ou tl, q)) rfl rfl rfl rfl (by omega) (by decide) (HWa_91 (by funext j; unfold usc; cases hb : Nat.beq j 91 <;> first | rfl | (rw [Nat.eq_of_beq_eq_true hb]; rfl))) ?_
    refine RQ.seg 4 (pc' := 228) (L' := [some (.ref 80), some (.int (iI 0)), some (.int (iI (tp.length : Int))), some (.int (iI 1))]) (st' := [.int (iI 0), .int (iI 1), .ref 92]) (g1 := (HW (usc (usc (usc sc1 8006 0) 8024 (sc1 8026)) 8025 (sc1 8027)) (usc (usc (usc (usc (usc (usc ar1 85 f85) 86 f86) 87 (usz (usz (usz (usz (ar1 87) 0 ((ar1 90) 0)) 1 ((ar1 90) 1)) 2 ((ar1 90) 2)) 3 ((ar1 90) 3))) 91 (usz (usz (ar1 91) 0 (-1)) 1 (-1))) 92 (usz (ar1 92) 0 0)) 93 (usz (ar1 93) 0 0)) 81 oc rl ou tl, q)) rfl ?_
    refine RQ.iast (z := 1) (v := 0) (g1 := (HW (usc (usc (usc sc1 8006 0) 8024 (sc1 8026)) 8025 (sc1 8027)) (usc (usc (usc (usc (usc (usc ar1 85 f85) 86 f86) 87 (usz (usz (usz (usz (ar1 87) 0 ((ar1 90) 0)) 1 ((ar1 90) 1)) 2 ((ar1 90) 2)) 3 ((ar1 90) 3))) 91 (usz (usz (ar1 91) 0 (-1)) 1 (-1))) 92 (usz (usz (ar1 92) 0 0) 1 0)) 93 (usz (ar1 93) 0 0)) 81 oc rl ou tl, q)) rfl rfl rfl rfl (by omega) (by decide) (HWa_92 (by funext j; unfold usc; cases hb : Nat.beq j 92 <;> first | rfl | (rw [Nat.eq_of_beq_eq_true hb]; rfl))) ?_
    refine RQ.seg 4 (pc' := 235) (L' := [some (.ref 80), some (.int (iI 0)), some (.int (iI (tp.length : Int))), some (.int (iI 1))]) (st' := [.int (iI 0), .int (iI 1), .ref 93]) (g1 := (HW (usc (usc (usc sc1 8006 0) 8024 (sc1 8026)) 8025 (sc1 8027)) (usc (usc (usc (usc (usc (usc ar1 85 f85) 86 f86) 87 (usz (usz (usz (usz (ar1 87) 0 ((ar1 90) 0)) 1 ((ar1 90) 1)) 2 ((ar1 90) 2)) 3 ((ar1 90) 3))) 91 (usz (usz (ar1 91) 0 (-1)) 1 (-1))) 92 (usz (usz (ar1 92) 0 0) 1 0)) 93 (usz (ar1 93) 0 0)) 81 oc rl ou tl, q)) rfl ?_
    refine RQ.iast (z := 1) (v := 0) (g1 := (HW (usc (usc (usc sc1 8006 0) 8024 (sc1 8026)) 8025 (sc1 8027)) (usc (usc (usc (usc (usc (usc ar1 85 f85) 86 f86) 87 (usz (usz (usz (usz (ar1 87) 0 ((ar1 90) 0)) 1 ((ar1 90) 1)) 2 ((ar1 90) 2)) 3 ((ar1 90) 3))) 91 (usz (usz (ar1 91) 0 (-1)) 1 (-1))) 92 (usz (usz (ar1 92) 0 0) 1 0)) 93 (usz (usz (ar1 93) 0 0) 1 0)) 81 oc rl ou tl, q)) rfl rfl rfl rfl (by omega) (by decide) (HWa_93 (by funext j; unfold usc; cases hb : Nat.beq j 93 <;> first | rfl | (rw [Nat.eq_of_beq_eq_true hb]; rfl))) ?_
    refine RQ.seg 9 (pc' := 221) (L' := [some (.ref 80), some (.int (iI 0)), some (.int (iI (tp.length : Int))), some (.int (iI 2))]) (st' := [.int (iI (-1)), .int (iI 2), .ref 91]) (g1 := (HW (usc (usc (usc sc1 8006 0) 8024 (sc1 8026)) 8025 (sc1 8027)) (usc (usc (usc (usc (usc (usc ar1 85 f85) 86 f86) 87 (usz (usz (usz (usz (ar1 87) 0 ((ar1 90) 0)) 1 ((ar1 90) 1)) 2 ((ar1 90) 2)) 3 ((ar1 90) 3))) 91 (usz (usz (ar1 91) 0 (-1)) 1 (-1))) 92 (usz (usz (ar1 92) 0 0) 1 0)) 93 (usz (usz (ar1 93) 0 0) 1 0)) 81 oc rl ou tl, q)) rfl ?_
    refine RQ.iast (z := 2) (v := (-1)) (g1 := (HW (usc (usc (usc sc1 8006 0) 8024 (sc1 8026)) 8025 (sc1 8027)) (usc (usc (usc (usc (usc (usc ar1 85 f85) 86 f86) 87 (usz (usz (usz (usz (ar1 87) 0 ((ar1 90) 0)) 1 ((ar1 90) 1)) 2 ((ar1 90) 2)) 3 ((ar1 90) 3))) 91 (usz (usz (usz (ar1 91) 0 (-1)) 1 (-1)) 2 (-1))) 92 (usz (usz (ar1 92) 0 0) 1 0)) 93 (usz (usz (ar1 93) 0 0) 1 0)) 81 oc rl ou tl, q)) rfl rfl rfl rfl (by omega) (by decide) (HWa_91 (by funext j; unfold usc; cases hb : Nat.beq j 91 <;> first | rfl | (rw [Nat.eq_of_beq_eq_true hb]; rfl))) ?_
    refine RQ.seg 4 (pc' := 228) (L' := [some (.ref 80), some (.int (iI 0)), some (.int (iI (tp.length : Int))), some (.int (iI 2))]) (st' := [.int (iI 0), .int (iI 2), .ref 92]) (g1 := (HW (usc (usc (usc sc1 8006 0) 8024 (sc1 8026)) 8025 (sc1 8027)) (usc (usc (usc (usc (usc (usc ar1 85 f85) 86 f86) 87 (usz (usz (usz (usz (ar1 87) 0 ((ar1 90) 0)) 1 ((ar1 90) 1)) 2 ((ar1 90) 2)) 3 ((ar1 90) 3))) 91 (usz (usz (usz (ar1 91) 0 (-1)) 1 (-1)) 2 (-1))) 92 (usz (usz (ar1 92) 0 0) 1 0)) 93 (usz (usz (ar1 93) 0 0) 1 0)) 81 oc rl ou tl, q)) rfl ?_
    refine RQ.iast (z := 2) (v := 0) (g1 := (HW (usc (usc (usc sc1 8006 0) 8024 (sc1 8026)) 8025 (sc1 8027)) (usc (usc (usc (usc (usc (usc ar1 85 f85) 86 f86) 87 (usz (usz (usz (usz (ar1 87) 0 ((ar1 90) 0)) 1 ((ar1 90) 1)) 2 ((ar1 90) 2)) 3 ((ar1 90) 3))) 91 (usz (usz (usz (ar1 91) 0 (-1)) 1 (-1)) 2 (-1))) 92 (usz (usz (usz (ar1 92) 0 0) 1 0) 2 0)) 93 (usz (usz (ar1 93) 0 0) 1 0)) 81 oc rl ou tl, q)) rfl rfl rfl rfl (by omega) (by decide) (HWa_92 (by funext j; unfold usc; cases hb : Nat.beq j 92 <;> first | rfl | (rw [Nat.eq_of_beq_eq_true hb]; rfl))) ?_
    refine RQ.seg 4 (pc' := 235) (L' := [some (.ref 80), some (.int (iI 0)), some (.int (iI (tp.length : Int))), some (.int (iI 2))]) (st' := [.int (iI 0), .int (iI 2), .ref 93]) (g1 := (HW (usc (usc (usc sc1 8006 0) 8024 (sc1 8026)) 8025 (sc1 8027)) (usc (usc (usc (usc (usc (usc ar1 85 f85) 86 f86) 87 (usz (usz (usz (usz (ar1 87) 0 ((ar1 90) 0)) 1 ((ar1 90) 1)) 2 ((ar1 90) 2)) 3 ((ar1 90) 3))) 91 (usz (usz (usz (ar1 91) 0 (-1)) 1 (-1)) 2 (-1))) 92 (usz (usz (usz (ar1 92) 0 0) 1 0) 2 0)) 93 (usz (usz (ar1 93) 0 0) 1 0)) 81 oc rl ou tl, q)) rfl ?_
    refine RQ.iast (z := 2) (v := 0) (g1 := (HW (usc (usc (usc sc1 8006 0) 8024 (sc1 8026)) 8025 (sc1 8027)) (usc (usc (usc (usc (usc (usc ar1 85 f85) 86 f86) 87 (usz (usz (usz (usz (ar1 87) 0 ((ar1 90) 0)) 1 ((ar1 90) 1)) 2 ((ar1 90) 2)) 3 ((ar1 90) 3))) 91 (usz (usz (usz (ar1 91) 0 (-1)) 1 (-1)) 2 (-1))) 92 (usz (usz (usz (ar1 92) 0 0) 1 0) 2 0)) 93 (usz (usz (usz (ar1 93) 0 0) 1 0) 2 0)) 81 oc rl ou tl, q)) rfl rfl rfl rfl (by omega) (by decide) (HWa_93 (by funext j; unfold usc; cases hb : Nat.beq j 93 <;> first | rfl | (rw [Nat.eq_of_beq_eq_true hb]; rfl))) ?_
    refine RQ.seg 18 (pc' := 263) (L' := [some (.ref 80), some (.int (iI 0)), some (.int (iI (tp.length : Int))), some (.int (iI 3))]) (st' := [.ref 80]) (g1 := (HW (usc (usc (usc (usc (usc (usc (usc sc1 8006 0) 8024 (sc1 8026)) 8025 (sc1 8027)) 8032 0) 8056 0) 8059 0) 8065 0) (usc (usc (usc (usc (usc (usc ar1 85 f85) 86 f86) 87 (usz (usz (usz (usz (ar1 87) 0 ((ar1 90) 0)) 1 ((ar1 90) 1)) 2 ((ar1 90) 2)) 3 ((ar1 90) 3))) 91 (usz (usz (usz (ar1 91) 0 (-1)) 1 (-1)) 2 (-1))) 92 (usz (usz (usz (ar1 92) 0 0) 1 0) 2 0)) 93 (usz (usz (usz (ar1 93) 0 0) 1 0) 2 0)) 81 oc rl ou tl, q)) rfl ?_
    refine RQ.callQ rfl rfl (CQ.up (m_layPuts (d := 0) (sc := usc (usc (usc (usc (usc (usc (usc sc1 8006 0) 8024 (sc1 8026)) 8025 (sc1 8027)) 8032 0) 8056 0) 8059 0) 8065 0) (ar := usc (usc (usc (usc (usc (usc ar1 85 f85) 86 f86) 87 (usz (usz (usz (usz (ar1 87) 0 ((ar1 90) 0)) 1 ((ar1 90) 1)) 2 ((ar1 90) 2)) 3 ((ar1 90) 3))) 91 (usz (usz (usz (ar1 91) 0 (-1)) 1 (-1)) 2 (-1))) 92 (usz (usz (usz (ar1 92) 0 0) 1 0) 2 0)) 93 (usz (usz (usz (ar1 93) 0 0) 1 0) 2 0)) hF ?_) (by omega)) (fun rv g1 hc9 => ?_)
    · exact hM1
    obtain ⟨rfl, p94, p95, rfl, hP⟩ := hc9
    refine RQ.seg 2 (pc' := 270) (L' := [some (.ref 80), some (.int (iI 0)), some (.int (iI (tp.length : Int))), some (.int (iI 3))]) (st' := [.int (iI (sc1 8027))]) (g1 := (HW (usc (usc (usc (usc (usc (usc (usc sc1 8006 0) 8024 (sc1 8026)) 8025 (sc1 8027)) 8032 0) 8056 0) 8059 0) 8065 0) (usc (usc (usc (usc (usc (usc (usc (usc ar1 85 f85) 86 f86) 87 (usz (usz (usz (usz (ar1 87) 0 ((ar1 90) 0)) 1 ((ar1 90) 1)) 2 ((ar1 90) 2)) 3 ((ar1 90) 3))) 91 (usz (usz (usz (ar1 91) 0 (-1)) 1 (-1)) 2 (-1))) 92 (usz (usz (usz (ar1 92) 0 0) 1 0) 2 0)) 93 (usz (usz (usz (ar1 93) 0 0) 1 0) 2 0)) 94 p94) 95 p95) 81 oc rl ou tl, q)) rfl ?_
    refine RQ.ret rfl rfl ?_
    exact ⟨by rw [show sText0 tp = fB (fr9 tp) from if_pos (by omega), ← z4], _, _, rfl, Same.tr (Same.w rfl hsF) (by repeat (first | exact Same.rf | refine Same.us rfl ?_)), Same.tr (Same.w rfl ha1) (by repeat (first | exact Same.rf | refine Same.us rfl ?_)), fun _ => ⟨hM1, hP, ⟨⟨fun j j0 j1 => (us4 (g := ar1 90) j0 j1).trans (z7 j j0 j1), fun b b0 b1 => us3 b0 b1, rfl, fun k k0 k1 => absurd (show k < 0 from k1) (by omega)⟩, rfl, rfl, fun b b0 b1 => ⟨us3 b0 b1, us3 b0 b1⟩, fun i b i0 i1 => absurd (show i < 0 from i1) (by omega)⟩, rfl, rfl⟩, fun z => absurd (show frF tp = -1 by omega) z⟩
  · skip
    refine RQ.seg 1 (pc' := 38) (L' := [some (.ref 80), some (.int (iI 0)), none, none]) (st' := [.int (iI (-1))]) (g1 := (HW sc1 ar1 81 oc rl ou tl, q)) rfl ?_
    refine RQ.ret rfl rfl ?_
    exact ⟨by rw [show sText0 tp = -1 from if_neg (by omega)], _, _, rfl, Same.w rfl hsF, Same.w rfl ha1, fun z => absurd z (by omega), fun _ => ⟨hsF, ha1⟩⟩
