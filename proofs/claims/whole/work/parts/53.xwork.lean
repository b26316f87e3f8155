/-! rests of the class: best work, pay, by wip/tools -/
/-! rests of the class: the best work by what all others do -/
def bwn (nw nb : Int) (W B : Int → Int → Int) (law : Int → Int) (b o : Int) : Nat → Int
  | 0 => -1000000
  | k + 1 => if o3 (mny nw nb W B) k b = o ∧ rbk nw nb W B k b = 0 then max (bwn nw nb W B law b o k) (rgn nw nb W B law k b) else bwn nw nb W B law b o k
theorem bwn_r {nw nb : Int} {W B : Int → Int → Int} (hF : FrOK nw nb W B) {law : Int → Int} (hL : LwOK law) {b o : Int} (hb : 0 ≤ b ∧ b < nb) : ∀ n : Nat, -1000000 ≤ bwn nw nb W B law b o n ∧ bwn nw nb W B law b o n ≤ 4000
  | 0 => ⟨by show (-1000000 : Int) ≤ -1000000; omega, by show (-1000000 : Int) ≤ 4000; omega⟩
  | n + 1 => by
    have h1 := bwn_r hF hL (o := o) hb n
    have h2 := rgn_r hF hL (n : Int) hb
    rw [bwn]
    split
    · omega
    · exact h1
theorem bwn_le {nw nb : Int} {W B : Int → Int → Int} {law : Int → Int} {b o v : Int} (hv : -1000000 ≤ v) : ∀ n : Nat, bwn nw nb W B law b o n ≤ v ↔ ∀ i : Int, 0 ≤ i → i < n → o3 (mny nw nb W B) i b = o → rbk nw nb W B i b = 0 → rgn nw nb W B law i b ≤ v
  | 0 => ⟨fun _ k h0 h1 => absurd h1 (by omega), fun _ => hv⟩
  | n + 1 => by
    have ih := bwn_le (nw := nw) (nb := nb) (W := W) (B := B) (law := law) (b := b) (o := o) hv n
    rw [bwn]
    constructor
    · intro h i i0 i1 ho hk
      by_cases e : i = (n : Int)
      · subst e
        rw [if_pos ⟨ho, hk⟩] at h
        omega
      · refine ih.mp ?_ i i0 (by omega) ho hk
        split at h <;> omega
    · intro h
      have h3 := ih.mpr (fun i i0 i1 ho hk => h i i0 (by omega) ho hk)
      split
      · rename_i hc
        have := h n (by omega) (by omega) hc.1 hc.2
        omega
      · exact h3
theorem bwn_wrk {nw nb : Int} {W B : Int → Int → Int} (hF : FrOK nw nb W B) {law : Int → Int} (hL : LwOK law) {i b : Int} (hi : 0 ≤ i ∧ i < t3 (mny nw nb W B)) (hb : 0 ≤ b ∧ b < nb) : bwn nw nb W B law b (o3 (mny nw nb W B) i b) (t3 (mny nw nb W B)).toNat = wrk nw nb W B law i b := by
  have hn := hF.1
  have hB := mny_b (nw := nw) (nb := nb) (W := W) (B := B) hn.2.1
  have hm := hB b (by omega) (by omega)
  have r1 := bwn_r hF hL (o := o3 (mny nw nb W B) i b) hb (t3 (mny nw nb W B)).toNat
  have r2 := wkn_r hF hL (i := i) hb (mny nw nb W B b).toNat
  apply Int.le_antisymm
  · rw [bwn_le (by unfold wrk; omega)]
    intro j j0 j1 ho hk
    have e := o3_n hB hi (j := j) (by omega) (by omega) ho
    have hx := x3_r hB (i := j) (b := b) (by omega)
    have h3 := (wkn_le (nw := nw) (nb := nb) (W := W) (B := B) (law := law) (i := i) (b := b) r2.1 (mny nw nb W B b).toNat).mp (Int.le_refl _) (x3 (mny nw nb W B) j b) hx.1 (by omega)
    unfold nbr at h3
    rw [← e] at h3
    exact h3 hk
  · unfold wrk
    rw [wkn_le (by omega)]
    intro k k0 k1 hk
    have hx := n3_x hB hi (b := b) (k := k) (c := b) (by omega) (by omega) (by omega)
    exact (bwn_le (nw := nw) (nb := nb) (W := W) (B := B) (law := law) (b := b) (o := o3 (mny nw nb W B) i b) r1.1 (t3 (mny nw nb W B)).toNat).mp (Int.le_refl _) (nbr nw nb W B i b k) hx.1.1 (by have := hx.1.2; unfold nbr; omega) hx.2.2 hk
/-- the best work is found -/
def BwK (nw nb : Int) (W B : Int → Int → Int) (law : Int → Int) (ar : Nat → Int → Int) : Prop := ∀ b i, 0 ≤ b → b < nb → 0 ≤ i → i < t3 (mny nw nb W B) → ar (74 + b.toNat) (o3 (mny nw nb W B) i b) = wrk nw nb W B law i b
theorem bwn_up {nw nb : Int} {W B : Int → Int → Int} {law : Int → Int} {b : Int} {k : Nat} {F : Int → Int} (h : ∀ o, 0 ≤ o → o < 625 → F o = bwn nw nb W B law b o k) (hk : rbk nw nb W B k b = 0) (ho : 0 ≤ o3 (mny nw nb W B) k b ∧ o3 (mny nw nb W B) k b < 625) : ∀ o, 0 ≤ o → o < 625 → usz F (o3 (mny nw nb W B) k b) (max (bwn nw nb W B law b (o3 (mny nw nb W B) k b) k) (rgn nw nb W B law k b)) o = bwn nw nb W B law b o (k + 1) := by
  intro o o0 o1
  rw [bwn]
  by_cases e : o = o3 (mny nw nb W B) k b
  · subst e; rw [usz_s, if_pos ⟨rfl, hk⟩]
  · rw [usz_n e, h o o0 o1, if_neg (fun z => e z.1.symm)]
theorem bwn_no {nw nb : Int} {W B : Int → Int → Int} {law : Int → Int} {b o : Int} {k : Nat} (hk : rbk nw nb W B k b = 1) : bwn nw nb W B law b o (k + 1) = bwn nw nb W B law b o k := by
  rw [bwn, if_neg (fun z => by omega)]
theorem x_bi0_l {K : PK} {d : Nat} {sc : Nat → Int} {ar : Nat → Int → Int} {tx : Nat} {rl : Nat → Option Nat} {ou : Nat → Int64} {tl : List PO} {q : Nat × Nat} {j n : Nat} {f : Int → Int} {Q : Option Value → PG → Prop} {q0 : Int} {e4 e5 : Option Value} {F1 F2 : Int → Int} (hj : j < tl.length) (hk : ∀ F' : Int → Int, (∀ z, 0 ≤ z → z < 625 → F' z = -1000000) → RQ K (d + 3) 5 false none cd66 32 [some (.ref 72), some (.int (iI q0)), some (.int (iI 0)), some (.int (iI 625)), e4, e5] [] (HW sc (usc (usc (usc ar 74 F') 75 F1) 76 F2) tx (j + 118) rl ou (otl tl j n f), q) Q) : ∀ (m : Nat) (o : Int) (F0 : Int → Int) (hm : 0 ≤ o ∧ o + m = 625) (hF : (∀ z, 0 ≤ z → z < o → F0 z = -1000000)), RQ K (d + 3) 5 false none cd66 9 [some (.ref 72), some (.int (iI q0)), some (.int (iI 0)), some (.int (iI o)), e4, e5] [] (HW sc (usc (usc (usc ar 74 F0) 75 F1) 76 F2) tx (j + 118) rl ou (otl tl j n f), q) Q
  | 0, o, F0, hm, hF => by
    refine RQ.seg 2 (pc' := 13) (L' := [some (.ref 72), some (.int (iI q0)), some (.int (iI 0)), some (.int (iI o)), e4, e5]) (st' := [.int (iI 625), .int (iI o)]) (g1 := (HW sc (usc (usc (usc ar 74 F0) 75 F1) 76 F2) tx (j + 118) rl ou (otl tl j n f), q)) rfl ?_
    refine RQ.if2 (a := o) (b := 625) rfl rfl rfl rfl (by omega) (by omega) (fun _ => ?_) (fun (q : ¬ 625 ≤ o) => absurd (show 625 ≤ o from by omega) q)
    obtain rfl : o = 625 := by omega
    exact hk F0 hF
  | m + 1, o, F0, hm, hF => by
    refine RQ.seg 2 (pc' := 13) (L' := [some (.ref 72), some (.int (iI q0)), some (.int (iI 0)), some (.int (iI o)), e4, e5]) (st' := [.int (iI 625), .int (iI o)]) (g1 := (HW sc (usc (usc (usc ar 74 F0) 75 F1) 76 F2) tx (j + 118) rl ou (otl tl j n f), q)) rfl ?_
    refine RQ.if2 (a := o) (b := 625) rfl rfl rfl rfl (by omega) (by omega) (fun (q : 625 ≤ o) => absurd q (show ¬ 625 ≤ o from by omega)) (fun _ => ?_)
    refine RQ.seg 3 (pc' := 21) (L' := [some (.ref 72), some (.int (iI q0)), some (.int (iI 0)), some (.int (iI o)), e4, e5]) (st' := [.int (iI 0), .ref 73]) (g1 := (HW sc (usc (usc (usc ar 74 F0) 75 F1) 76 F2) tx (j + 118) rl ou (otl tl j n f), q)) rfl ?_
    refine RQ.aald (z := 0) rfl rfl rfl (by omega) (by decide) ?_
    refine RQ.to (L' := [some (.ref 72), some (.int (iI q0)), some (.int (iI 0)), some (.int (iI o)), e4, e5]) (st' := [.ref 74]) rfl rfl ?_
    refine RQ.seg 2 (pc' := 25) (L' := [some (.ref 72), some (.int (iI q0)), some (.int (iI 0)), some (.int (iI o)), e4, e5]) (st' := [.int (iI (-1000000)), .int (iI o), .ref 74]) (g1 := (HW sc (usc (usc (usc ar 74 F0) 75 F1) 76 F2) tx (j + 118) rl ou (otl tl j n f), q)) rfl ?_
    refine RQ.iast (z := o) (v := (-1000000)) (g1 := (HW sc (usc (usc (usc ar 74 (usz F0 o (-1000000))) 75 F1) 76 F2) tx (j + 118) rl ou (otl tl j n f), q)) rfl rfl rfl rfl (by omega) (by decide) (HWa_74 (by funext j; unfold usc; cases hb : Nat.beq j 74 <;> first | rfl | (rw [Nat.eq_of_beq_eq_true hb]; rfl))) ?_
    refine RQ.seg 2 (pc' := 9) (L' := [some (.ref 72), some (.int (iI q0)), some (.int (iI 0)), some (.int ((iI o) + (iI 1))), e4, e5]) (st' := []) (g1 := (HW sc (usc (usc (usc ar 74 (usz F0 o (-1000000))) 75 F1) 76 F2) tx (j + 118) rl ou (otl tl j n f), q)) rfl ?_
    refine RQ.to (L' := [some (.ref 72), some (.int (iI q0)), some (.int (iI 0)), some (.int (iI (o + 1))), e4, e5]) (st' := []) (by simp only [iI_add, iI_sub, iI_mul, iI_neg]) rfl ?_
    refine x_bi0_l hj hk m (o + 1) _ (by omega) (fun z z0 z1 => ?_)
    by_cases e : z = o
    · subst e; exact usz_s _ _ _
    · rw [usz_n e]; exact hF z z0 (by omega)
theorem x_bk0_l {K : PK} {d : Nat} {sc : Nat → Int} {ar : Nat → Int → Int} {tx : Nat} {rl : Nat → Option Nat} {ou : Nat → Int64} {tl : List PO} {q : Nat × Nat} {j n : Nat} {f : Int → Int} {Q : Option Value → PG → Prop} {nw nb : Int} {W B : Int → Int → Int} (hF : FrOK nw nb W B) (hX : FrX (sc 303) (sc 304) (ar 5) (ar 6) (ar 7) (ar 8) (ar 10) (ar 11) (ar 12) nw nb W B) {r e : Int → Int} (hj : j < tl.length) (hR : RwK nw nb W B r e n f sc ar) {law : Int → Int} (hlw : ∀ j, 0 ≤ j → j < 4 → ar 32 j = law j) (hL : LwOK law) {q0 : Int} (hq0 : 0 ≤ q0 ∧ q0 ≤ 2) (hb : 0 < nb) {F1 F2 : Int → Int} (hk : ∀ (F' : Int → Int) (e4 e5 : Option Value), (∀ o, 0 ≤ o → o < 625 → F' o = bwn nw nb W B (lwq law q0) 0 o (t3 (mny nw nb W B)).toNat) → RQ K (d + 3) 5 false none cd66 146 [some (.ref 72), some (.int (iI q0)), some (.int (iI 0)), some (.int (iI (t3 (mny nw nb W B)))), e4, e5] [] (HW sc (usc (usc (usc ar 74 F') 75 F1) 76 F2) tx (j + 118) rl ou (otl tl j n f), q) Q) : ∀ (m k : Nat) (F0 : Int → Int) (e4 e5 : Option Value) (hm : (k : Int) + m = t3 (mny nw nb W B)) (hv : (∀ o, 0 ≤ o → o < 625 → F0 o = bwn nw nb W B (lwq law q0) 0 o k)), RQ K (d + 3) 5 false none cd66 56 [some (.ref 72), some (.int (iI q0)), some (.int (iI 0)), some (.int (iI (k : Int))), e4, e5] [] (HW sc (usc (usc (usc ar 74 F0) 75 F1) 76 F2) tx (j + 118) rl ou (otl tl j n f), q) Q
  | 0, k, F0, e4, e5, hm, hv => by
    have hn := hF.1
    have hm1 := hX.1
    have hm2 := hX.2.1
    obtain ⟨hk1, hT, hmo, hn5, ⟨hr, he⟩, hf⟩ := id hR
    have hB := mny_b (nw := nw) (nb := nb) (W := W) (B := B) hF.1.2.1
    have ht3 := t3_r hB
    have hsz : sc 6308 = t3 (mny nw nb W B) := hT.2.2
    refine RQ.seg 4 (pc' := 64) (L' := [some (.ref 72), some (.int (iI q0)), some (.int (iI 0)), some (.int (iI (k : Int))), e4, e5]) (st' := [.int (iI (sc 6308)), .int (iI (k : Int))]) (g1 := (HW sc (usc (usc (usc ar 74 F0) 75 F1) 76 F2) tx (j + 118) rl ou (otl tl j n f), q)) rfl ?_
    refine RQ.to (L' := [some (.ref 72), some (.int (iI q0)), some (.int (iI 0)), some (.int (iI (k : Int))), e4, e5]) (st' := [.int (iI (t3 (mny nw nb W B))), .int (iI (k : Int))]) rfl (by rw [show sc 6308 = t3 (mny nw nb W B) from hsz]) ?_
    refine RQ.if2 (a := (k : Int)) (b := (t3 (mny nw nb W B))) rfl rfl rfl rfl (by omega) (by omega) (fun _ => ?_) (fun (q : ¬ t3 (mny nw nb W B) ≤ (k : Int)) => absurd (show t3 (mny nw nb W B) ≤ (k : Int) from by omega) q)
    have e9 : t3 (mny nw nb W B) = (k : Int) := by omega
    rw [e9, Int.toNat_natCast] at hk
    exact hk F0 e4 e5 hv
  | m + 1, k, F0, e4, e5, hm, hv => by
    have hn := hF.1
    have hm1 := hX.1
    have hm2 := hX.2.1
    obtain ⟨hk1, hT, hmo, hn5, ⟨hr, he⟩, hf⟩ := id hR
    have hB := mny_b (nw := nw) (nb := nb) (W := W) (B := B) hF.1.2.1
    have ht3 := t3_r hB
    have hsz : sc 6308 = t3 (mny nw nb W B) := hT.2.2
    have hor := o3_r hB (i := (k : Int)) (b := 0) (by omega) (by omega)
    have hgr := rgn_r hF (lwq_ok hL hq0) (k : Int) (b := 0) (by omega)
    have hwr := bwn_r hF (lwq_ok hL hq0) (b := 0) (o := o3 (mny nw nb W B) (k : Int) 0) (by omega) k
    refine RQ.seg 4 (pc' := 64) (L' := [some (.ref 72), some (.int (iI q0)), some (.int (iI 0)), some (.int (iI (k : Int))), e4, e5]) (st' := [.int (iI (sc 6308)), .int (iI (k : Int))]) (g1 := (HW sc (usc (usc (usc ar 74 F0) 75 F1) 76 F2) tx (j + 118) rl ou (otl tl j n f), q)) rfl ?_
    refine RQ.to (L' := [some (.ref 72), some (.int (iI q0)), some (.int (iI 0)), some (.int (iI (k : Int))), e4, e5]) (st' := [.int (iI (t3 (mny nw nb W B))), .int (iI (k : Int))]) rfl (by rw [show sc 6308 = t3 (mny nw nb W B) from hsz]) ?_
    refine RQ.if2 (a := (k : Int)) (b := (t3 (mny nw nb W B))) rfl rfl rfl rfl (by omega) (by omega) (fun (q : t3 (mny nw nb W B) ≤ (k : Int)) => absurd q (show ¬ t3 (mny nw nb W B) ≤ (k : Int) from by omega)) (fun _ => ?_)
    refine RQ.seg 4 (pc' := 73) (L' := [some (.ref 72), some (.int (iI q0)), some (.int (iI 0)), some (.int (iI (k : Int))), e4, e5]) (st' := [.int (iI 0), .int (iI (k : Int)), .ref 63]) (g1 := (HW sc (usc (usc (usc ar 74 F0) 75 F1) 76 F2) tx (j + 118) rl ou (otl tl j n f), q)) rfl ?_
    refine RQ.call rfl rfl (CallR.up (d := 1) (x_oth (d := 0) (sc := sc) (ar := usc (usc (usc ar 74 F0) 75 F1) 76 F2) (i := (k : Int)) (b := 0) hF hX hT (by omega) (by omega)) (by omega)) ?_
    refine RQ.seg 5 (pc' := 86) (L' := [some (.ref 72), some (.int (iI q0)), some (.int (iI 0)), some (.int (iI (k : Int))), some (.int (iI (o3 (mny nw nb W B) (k : Int) 0))), e5]) (st' := [.int (iI (k : Int)), .ref (j + 118)]) (g1 := (HW sc (usc (usc (usc ar 74 F0) 75 F1) 76 F2) tx (j + 118) rl ou (otl tl j n f), q)) rfl ?_
    refine RQ.ialdv (z := (k : Int)) (v := (mko nw nb W B r e (k : Int))) rfl rfl (HWo_r hj) (by omega) (by omega) (hf (k : Int) (by omega) (by omega)) ?_
    refine RQ.seg 1 (pc' := 88) (L' := [some (.ref 72), some (.int (iI q0)), some (.int (iI 0)), some (.int (iI (k : Int))), some (.int (iI (o3 (mny nw nb W B) (k : Int) 0))), e5]) (st' := [.int (iI 0), .int (iI (mko nw nb W B r e (k : Int)))]) (g1 := (HW sc (usc (usc (usc ar 74 F0) 75 F1) 76 F2) tx (j + 118) rl ou (otl tl j n f), q)) rfl ?_
    have ho := mko_r hF hr he (k : Int)
    rcases (show rbk nw nb W B (k : Int) 0 = 1 ∨ rbk nw nb W B (k : Int) 0 = 0 by have := rbk_r (nw := nw) (nb := nb) (W := W) (B := B) (k : Int) 0; omega) with hbk | hbk
    · skip
      refine RQ.call rfl rfl (CallR.up (d := 1) (x_backIn_t (d := 0) (o := mko nw nb W B r e (k : Int)) (b := 0) (by omega) (by omega) ((mko_bk hF hr he (k : Int) (b := 0) (by omega)).trans hbk)) (by omega)) ?_
      refine RQ.seg 3 (pc' := 56) (L' := [some (.ref 72), some (.int (iI q0)), some (.int (iI 0)), some (.int ((iI (k : Int)) + (iI 1))), some (.int (iI (o3 (mny nw nb W B) (k : Int) 0))), e5]) (st' := []) (g1 := (HW sc (usc (usc (usc ar 74 F0) 75 F1) 76 F2) tx (j + 118) rl ou (otl tl j n f), q)) rfl ?_
      refine RQ.to (L' := [some (.ref 72), some (.int (iI q0)), some (.int (iI 0)), some (.int (iI ((k : Int) + 1))), some (.int (iI (o3 (mny nw nb W B) (k : Int) 0))), e5]) (st' := []) (by simp only [iI_add, iI_sub, iI_mul, iI_neg]) rfl ?_
      exact x_bk0_l hF hX hj hR hlw hL hq0 hb hk m (k + 1) F0 _ _ (by omega) (fun o o0 o1 => (hv o o0 o1).trans (bwn_no hbk).symm)
    · skip
      refine RQ.call rfl rfl (CallR.up (d := 1) (x_backIn_f (d := 0) (o := mko nw nb W B r e (k : Int)) (b := 0) (by omega) (by omega) ((mko_bk hF hr he (k : Int) (b := 0) (by omega)).trans hbk)) (by omega)) ?_
      refine RQ.seg 5 (pc' := 102) (L' := [some (.ref 72), some (.int (iI q0)), some (.int (iI 0)), some (.int (iI (k : Int))), some (.int (iI (o3 (mny nw nb W B) (k : Int) 0))), e5]) (st' := [.int (iI (k : Int)), .ref (j + 118)]) (g1 := (HW sc (usc (usc (usc ar 74 F0) 75 F1) 76 F2) tx (j + 118) rl ou (otl tl j n f), q)) rfl ?_
      refine RQ.ialdv (z := (k : Int)) (v := (mko nw nb W B r e (k : Int))) rfl rfl (HWo_r hj) (by omega) (by omega) (hf (k : Int) (by omega) (by omega)) ?_
      refine RQ.seg 5 (pc' := 112) (L' := [some (.ref 72), some (.int (iI q0)), some (.int (iI 0)), some (.int (iI (k : Int))), some (.int (iI (o3 (mny nw nb W B) (k : Int) 0))), e5]) (st' := [.int (iI q0), .ref 32, .int (iI 0), .int (iI (mko nw nb W B r e (k : Int)))]) (g1 := (HW sc (usc (usc (usc ar 74 F0) 75 F1) 76 F2) tx (j + 118) rl ou (otl tl j n f), q)) rfl ?_
      refine RQ.call rfl rfl (CallR.up (d := 3) (x_gain (d := 0) (sc := sc) (ar := usc (usc (usc ar 74 F0) 75 F1) 76 F2) (o := mko nw nb W B r e (k : Int)) (b := 0) (by omega) (by omega) hlw hL hq0) (by omega)) ?_
      rw [mko_gn hF hL hq0 hr he (k : Int) (b := 0) (by omega)]
      refine RQ.seg 4 (pc' := 122) (L' := [some (.ref 72), some (.int (iI q0)), some (.int (iI 0)), some (.int (iI (k : Int))), some (.int (iI (o3 (mny nw nb W B) (k : Int) 0))), some (.int (iI (rgn nw nb W B (lwq law q0) (k : Int) 0)))]) (st' := [.int (iI 0), .ref 73]) (g1 := (HW sc (usc (usc (usc ar 74 F0) 75 F1) 76 F2) tx (j + 118) rl ou (otl tl j n f), q)) rfl ?_
      refine RQ.aald (z := 0) rfl rfl rfl (by omega) (by decide) ?_
      refine RQ.to (L' := [some (.ref 72), some (.int (iI q0)), some (.int (iI 0)), some (.int (iI (k : Int))), some (.int (iI (o3 (mny nw nb W B) (k : Int) 0))), some (.int (iI (rgn nw nb W B (lwq law q0) (k : Int) 0)))]) (st' := [.ref 74]) rfl rfl ?_
      refine RQ.seg 4 (pc' := 130) (L' := [some (.ref 72), some (.int (iI q0)), some (.int (iI 0)), some (.int (iI (k : Int))), some (.int (iI (o3 (mny nw nb W B) (k : Int) 0))), some (.int (iI (rgn nw nb W B (lwq law q0) (k : Int) 0)))]) (st' := [.int (iI 0), .ref 73, .int (iI (o3 (mny nw nb W B) (k : Int) 0)), .ref 74]) (g1 := (HW sc (usc (usc (usc ar 74 F0) 75 F1) 76 F2) tx (j + 118) rl ou (otl tl j n f), q)) rfl ?_
      refine RQ.aald (z := 0) rfl rfl rfl (by omega) (by decide) ?_
      refine RQ.to (L' := [some (.ref 72), some (.int (iI q0)), some (.int (iI 0)), some (.int (iI (k : Int))), some (.int (iI (o3 (mny nw nb W B) (k : Int) 0))), some (.int (iI (rgn nw nb W B (lwq law q0) (k : Int) 0)))]) (st' := [.ref 74, .int (iI (o3 (mny nw nb W B) (k : Int) 0)), .ref 74]) rfl rfl ?_
      refine RQ.seg 1 (pc' := 133) (L' := [some (.ref 72), some (.int (iI q0)), some (.int (iI 0)), some (.int (iI (k : Int))), some (.int (iI (o3 (mny nw nb W B) (k : Int) 0))), some (.int (iI (rgn nw nb W B (lwq law q0) (k : Int) 0)))]) (st' := [.int (iI (o3 (mny nw nb W B) (k : Int) 0)), .ref 74, .int (iI (o3 (mny nw nb W B) (k : Int) 0)), .ref 74]) (g1 := (HW sc (usc (usc (usc ar 74 F0) 75 F1) 76 F2) tx (j + 118) rl ou (otl tl j n f), q)) rfl ?_
      refine RQ.ialdv (z := (o3 (mny nw nb W B) (k : Int) 0)) (v := (bwn nw nb W B (lwq law q0) 0 (o3 (mny nw nb W B) (k : Int) 0) k)) rfl rfl rfl (by omega) (by decide) (hv (o3 (mny nw nb W B) (k : Int) 0) (by omega) (by omega)) ?_
      refine RQ.seg 1 (pc' := 136) (L' := [some (.ref 72), some (.int (iI q0)), some (.int (iI 0)), some (.int (iI (k : Int))), some (.int (iI (o3 (mny nw nb W B) (k : Int) 0))), some (.int (iI (rgn nw nb W B (lwq law q0) (k : Int) 0)))]) (st' := [.int (iI (rgn nw nb W B (lwq law q0) (k : Int) 0)), .int (iI (bwn nw nb W B (lwq law q0) 0 (o3 (mny nw nb W B) (k : Int) 0) k)), .int (iI (o3 (mny nw nb W B) (k : Int) 0)), .ref 74]) (g1 := (HW sc (usc (usc (usc ar 74 F0) 75 F1) 76 F2) tx (j + 118) rl ou (otl tl j n f), q)) rfl ?_
      refine RQ.call rfl rfl (CallR.up (d := 1) (x_max (d := 0) (a := (bwn nw nb W B (lwq law q0) 0 (o3 (mny nw nb W B) (k : Int) 0) k)) (b := (rgn nw nb W B (lwq law q0) (k : Int) 0)) (by omega) (by omega)) (by omega)) ?_
      refine RQ.iast (z := (o3 (mny nw nb W B) (k : Int) 0)) (v := (max (bwn nw nb W B (lwq law q0) 0 (o3 (mny nw nb W B) (k : Int) 0) k) (rgn nw nb W B (lwq law q0) (k : Int) 0))) (g1 := (HW sc (usc (usc (usc ar 74 (usz F0 (o3 (mny nw nb W B) (k : Int) 0) (max (bwn nw nb W B (lwq law q0) 0 (o3 (mny nw nb W B) (k : Int) 0) k) (rgn nw nb W B (lwq law q0) (k : Int) 0)))) 75 F1) 76 F2) tx (j + 118) rl ou (otl tl j n f), q)) rfl rfl rfl rfl (by omega) (by decide) (HWa_74 (by funext j; unfold usc; cases hb : Nat.beq j 74 <;> first | rfl | (rw [Nat.eq_of_beq_eq_true hb]; rfl))) ?_
      refine RQ.seg 2 (pc' := 56) (L' := [some (.ref 72), some (.int (iI q0)), some (.int (iI 0)), some (.int ((iI (k : Int)) + (iI 1))), some (.int (iI (o3 (mny nw nb W B) (k : Int) 0))), some (.int (iI (rgn nw nb W B (lwq law q0) (k : Int) 0)))]) (st' := []) (g1 := (HW sc (usc (usc (usc ar 74 (usz F0 (o3 (mny nw nb W B) (k : Int) 0) (max (bwn nw nb W B (lwq law q0) 0 (o3 (mny nw nb W B) (k : Int) 0) k) (rgn nw nb W B (lwq law q0) (k : Int) 0)))) 75 F1) 76 F2) tx (j + 118) rl ou (otl tl j n f), q)) rfl ?_
      refine RQ.to (L' := [some (.ref 72), some (.int (iI q0)), some (.int (iI 0)), some (.int (iI ((k : Int) + 1))), some (.int (iI (o3 (mny nw nb W B) (k : Int) 0))), some (.int (iI (rgn nw nb W B (lwq law q0) (k : Int) 0)))]) (st' := []) (by simp only [iI_add, iI_sub, iI_mul, iI_neg]) rfl ?_
      exact x_bk0_l hF hX hj hR hlw hL hq0 hb hk m (k + 1) _ _ _ (by omega) (bwn_up hv hbk hor)
theorem x_bi1_l {K : PK} {d : Nat} {sc : Nat → Int} {ar : Nat → Int → Int} {tx : Nat} {rl : Nat → Option Nat} {ou : Nat → Int64} {tl : List PO} {q : Nat × Nat} {j n : Nat} {f : Int → Int} {Q : Option Value → PG → Prop} {q0 : Int} {e4 e5 : Option Value} {F0 F2 : Int → Int} (hj : j < tl.length) (hk : ∀ F' : Int → Int, (∀ z, 0 ≤ z → z < 625 → F' z = -1000000) → RQ K (d + 3) 5 false none cd66 32 [some (.ref 72), some (.int (iI q0)), some (.int (iI 1)), some (.int (iI 625)), e4, e5] [] (HW sc (usc (usc (usc ar 74 F0) 75 F') 76 F2) tx (j + 118) rl ou (otl tl j n f), q) Q) : ∀ (m : Nat) (o : Int) (F1 : Int → Int) (hm : 0 ≤ o ∧ o + m = 625) (hF : (∀ z, 0 ≤ z → z < o → F1 z = -1000000)), RQ K (d + 3) 5 false none cd66 9 [some (.ref 72), some (.int (iI q0)), some (.int (iI 1)), some (.int (iI o)), e4, e5] [] (HW sc (usc (usc (usc ar 74 F0) 75 F1) 76 F2) tx (j + 118) rl ou (otl tl j n f), q) Q
  | 0, o, F1, hm, hF => by
    refine RQ.seg 2 (pc' := 13) (L' := [some (.ref 72), some (.int (iI q0)), some (.int (iI 1)), some (.int (iI o)), e4, e5]) (st' := [.int (iI 625), .int (iI o)]) (g1 := (HW sc (usc (usc (usc ar 74 F0) 75 F1) 76 F2) tx (j + 118) rl ou (otl tl j n f), q)) rfl ?_
    refine RQ.if2 (a := o) (b := 625) rfl rfl rfl rfl (by omega) (by omega) (fun _ => ?_) (fun (q : ¬ 625 ≤ o) => absurd (show 625 ≤ o from by omega) q)
    obtain rfl : o = 625 := by omega
    exact hk F1 hF
  | m + 1, o, F1, hm, hF => by
    refine RQ.seg 2 (pc' := 13) (L' := [some (.ref 72), some (.int (iI q0)), some (.int (iI 1)), some (.int (iI o)), e4, e5]) (st' := [.int (iI 625), .int (iI o)]) (g1 := (HW sc (usc (usc (usc ar 74 F0) 75 F1) 76 F2) tx (j + 118) rl ou (otl tl j n f), q)) rfl ?_
    refine RQ.if2 (a := o) (b := 625) rfl rfl rfl rfl (by omega) (by omega) (fun (q : 625 ≤ o) => absurd q (show ¬ 625 ≤ o from by omega)) (fun _ => ?_)
    refine RQ.seg 3 (pc' := 21) (L' := [some (.ref 72), some (.int (iI q0)), some (.int (iI 1)), some (.int (iI o)), e4, e5]) (st' := [.int (iI 1), .ref 73]) (g1 := (HW sc (usc (usc (usc ar 74 F0) 75 F1) 76 F2) tx (j + 118) rl ou (otl tl j n f), q)) rfl ?_
    refine RQ.aald (z := 1) rfl rfl rfl (by omega) (by decide) ?_
    refine RQ.to (L' := [some (.ref 72), some (.int (iI q0)), some (.int (iI 1)), some (.int (iI o)), e4, e5]) (st' := [.ref 75]) rfl rfl ?_
    refine RQ.seg 2 (pc' := 25) (L' := [some (.ref 72), some (.int (iI q0)), some (.int (iI 1)), some (.int (iI o)), e4, e5]) (st' := [.int (iI (-1000000)), .int (iI o), .ref 75]) (g1 := (HW sc (usc (usc (usc ar 74 F0) 75 F1) 76 F2) tx (j + 118) rl ou (otl tl j n f), q)) rfl ?_
    refine RQ.iast (z := o) (v := (-1000000)) (g1 := (HW sc (usc (usc (usc ar 74 F0) 75 (usz F1 o (-1000000))) 76 F2) tx (j + 118) rl ou (otl tl j n f), q)) rfl rfl rfl rfl (by omega) (by decide) (HWa_75 (by funext j; unfold usc; cases hb : Nat.beq j 75 <;> first | rfl | (rw [Nat.eq_of_beq_eq_true hb]; rfl))) ?_
    refine RQ.seg 2 (pc' := 9) (L' := [some (.ref 72), some (.int (iI q0)), some (.int (iI 1)), some (.int ((iI o) + (iI 1))), e4, e5]) (st' := []) (g1 := (HW sc (usc (usc (usc ar 74 F0) 75 (usz F1 o (-1000000))) 76 F2) tx (j + 118) rl ou (otl tl j n f), q)) rfl ?_
    refine RQ.to (L' := [some (.ref 72), some (.int (iI q0)), some (.int (iI 1)), some (.int (iI (o + 1))), e4, e5]) (st' := []) (by simp only [iI_add, iI_sub, iI_mul, iI_neg]) rfl ?_
    refine x_bi1_l hj hk m (o + 1) _ (by omega) (fun z z0 z1 => ?_)
    by_cases e : z = o
    · subst e; exact usz_s _ _ _
    · rw [usz_n e]; exact hF z z0 (by omega)
theorem x_bk1_l {K : PK} {d : Nat} {sc : Nat → Int} {ar : Nat → Int → Int} {tx : Nat} {rl : Nat → Option Nat} {ou : Nat → Int64} {tl : List PO} {q : Nat × Nat} {j n : Nat} {f : Int → Int} {Q : Option Value → PG → Prop} {nw nb : Int} {W B : Int → Int → Int} (hF : FrOK nw nb W B) (hX : FrX (sc 303) (sc 304) (ar 5) (ar 6) (ar 7) (ar 8) (ar 10) (ar 11) (ar 12) nw nb W B) {r e : Int → Int} (hj : j < tl.length) (hR : RwK nw nb W B r e n f sc ar) {law : Int → Int} (hlw : ∀ j, 0 ≤ j → j < 4 → ar 32 j = law j) (hL : LwOK law) {q0 : Int} (hq0 : 0 ≤ q0 ∧ q0 ≤ 2) (hb : 1 < nb) {F0 F2 : Int → Int} (hk : ∀ (F' : Int → Int) (e4 e5 : Option Value), (∀ o, 0 ≤ o → o < 625 → F' o = bwn nw nb W B (lwq law q0) 1 o (t3 (mny nw nb W B)).toNat) → RQ K (d + 3) 5 false none cd66 146 [some (.ref 72), some (.int (iI q0)), some (.int (iI 1)), some (.int (iI (t3 (mny nw nb W B)))), e4, e5] [] (HW sc (usc (usc (usc ar 74 F0) 75 F') 76 F2) tx (j + 118) rl ou (otl tl j n f), q) Q) : ∀ (m k : Nat) (F1 : Int → Int) (e4 e5 : Option Value) (hm : (k : Int) + m = t3 (mny nw nb W B)) (hv : (∀ o, 0 ≤ o → o < 625 → F1 o = bwn nw nb W B (lwq law q0) 1 o k)), RQ K (d + 3) 5 false none cd66 56 [some (.ref 72), some (.int (iI q0)), some (.int (iI 1)), some (.int (iI (k : Int))), e4, e5] [] (HW sc (usc (usc (usc ar 74 F0) 75 F1) 76 F2) tx (j + 118) rl ou (otl tl j n f), q) Q
  | 0, k, F1, e4, e5, hm, hv => by
    have hn := hF.1
    have hm1 := hX.1
    have hm2 := hX.2.1
    obtain ⟨hk1, hT, hmo, hn5, ⟨hr, he⟩, hf⟩ := id hR
    have hB := mny_b (nw := nw) (nb := nb) (W := W) (B := B) hF.1.2.1
    have ht3 := t3_r hB
    have hsz : sc 6308 = t3 (mny nw nb W B) := hT.2.2
    refine RQ.seg 4 (pc' := 64) (L' := [some (.ref 72), some (.int (iI q0)), some (.int (iI 1)), some (.int (iI (k : Int))), e4, e5]) (st' := [.int (iI (sc 6308)), .int (iI (k : Int))]) (g1 := (HW sc (usc (usc (usc ar 74 F0) 75 F1) 76 F2) tx (j + 118) rl ou (otl tl j n f), q)) rfl ?_
    refine RQ.to (L' := [some (.ref 72), some (.int (iI q0)), some (.int (iI 1)), some (.int (iI (k : Int))), e4, e5]) (st' := [.int (iI (t3 (mny nw nb W B))), .int (iI (k : Int))]) rfl (by rw [show sc 6308 = t3 (mny nw nb W B) from hsz]) ?_
    refine RQ.if2 (a := (k : Int)) (b := (t3 (mny nw nb W B))) rfl rfl rfl rfl (by omega) (by omega) (fun _ => ?_) (fun (q : ¬ t3 (mny nw nb W B) ≤ (k : Int)) => absurd (show t3 (mny nw nb W B) ≤ (k : Int) from by omega) q)
    have e9 : t3 (mny nw nb W B) = (k : Int) := by omega
    rw [e9, Int.toNat_natCast] at hk
    exact hk F1 e4 e5 hv
  | m + 1, k, F1, e4, e5, hm, hv => by
    have hn := hF.1
    have hm1 := hX.1
    have hm2 := hX.2.1
    obtain ⟨hk1, hT, hmo, hn5, ⟨hr, he⟩, hf⟩ := id hR
    have hB := mny_b (nw := nw) (nb := nb) (W := W) (B := B) hF.1.2.1
    have ht3 := t3_r hB
    have hsz : sc 6308 = t3 (mny nw nb W B) := hT.2.2
    have hor := o3_r hB (i := (k : Int)) (b := 1) (by omega) (by omega)
    have hgr := rgn_r hF (lwq_ok hL hq0) (k : Int) (b := 1) (by omega)
    have hwr := bwn_r hF (lwq_ok hL hq0) (b := 1) (o := o3 (mny nw nb W B) (k : Int) 1) (by omega) k
    refine RQ.seg 4 (pc' := 64) (L' := [some (.ref 72), some (.int (iI q0)), some (.int (iI 1)), some (.int (iI (k : Int))), e4, e5]) (st' := [.int (iI (sc 6308)), .int (iI (k : Int))]) (g1 := (HW sc (usc (usc (usc ar 74 F0) 75 F1) 76 F2) tx (j + 118) rl ou (otl tl j n f), q)) rfl ?_
    refine RQ.to (L' := [some (.ref 72), some (.int (iI q0)), some (.int (iI 1)), some (.int (iI (k : Int))), e4, e5]) (st' := [.int (iI (t3 (mny nw nb W B))), .int (iI (k : Int))]) rfl (by rw [show sc 6308 = t3 (mny nw nb W B) from hsz]) ?_
    refine RQ.if2 (a := (k : Int)) (b := (t3 (mny nw nb W B))) rfl rfl rfl rfl (by omega) (by omega) (fun (q : t3 (mny nw nb W B) ≤ (k : Int)) => absurd q (show ¬ t3 (mny nw nb W B) ≤ (k : Int) from by omega)) (fun _ => ?_)
    refine RQ.seg 4 (pc' := 73) (L' := [some (.ref 72), some (.int (iI q0)), some (.int (iI 1)), some (.int (iI (k : Int))), e4, e5]) (st' := [.int (iI 1), .int (iI (k : Int)), .ref 63]) (g1 := (HW sc (usc (usc (usc ar 74 F0) 75 F1) 76 F2) tx (j + 118) rl ou (otl tl j n f), q)) rfl ?_
    refine RQ.call rfl rfl (CallR.up (d := 1) (x_oth (d := 0) (sc := sc) (ar := usc (usc (usc ar 74 F0) 75 F1) 76 F2) (i := (k : Int)) (b := 1) hF hX hT (by omega) (by omega)) (by omega)) ?_
    refine RQ.seg 5 (pc' := 86) (L' := [some (.ref 72), some (.int (iI q0)), some (.int (iI 1)), some (.int (iI (k : Int))), some (.int (iI (o3 (mny nw nb W B) (k : Int) 1))), e5]) (st' := [.int (iI (k : Int)), .ref (j + 118)]) (g1 := (HW sc (usc (usc (usc ar 74 F0) 75 F1) 76 F2) tx (j + 118) rl ou (otl tl j n f), q)) rfl ?_
    refine RQ.ialdv (z := (k : Int)) (v := (mko nw nb W B r e (k : Int))) rfl rfl (HWo_r hj) (by omega) (by omega) (hf (k : Int) (by omega) (by omega)) ?_
    refine RQ.seg 1 (pc' := 88) (L' := [some (.ref 72), some (.int (iI q0)), some (.int (iI 1)), some (.int (iI (k : Int))), some (.int (iI (o3 (mny nw nb W B) (k : Int) 1))), e5]) (st' := [.int (iI 1), .int (iI (mko nw nb W B r e (k : Int)))]) (g1 := (HW sc (usc (usc (usc ar 74 F0) 75 F1) 76 F2) tx (j + 118) rl ou (otl tl j n f), q)) rfl ?_
    have ho := mko_r hF hr he (k : Int)
    rcases (show rbk nw nb W B (k : Int) 1 = 1 ∨ rbk nw nb W B (k : Int) 1 = 0 by have := rbk_r (nw := nw) (nb := nb) (W := W) (B := B) (k : Int) 1; omega) with hbk | hbk
    · skip
      refine RQ.call rfl rfl (CallR.up (d := 1) (x_backIn_t (d := 0) (o := mko nw nb W B r e (k : Int)) (b := 1) (by omega) (by omega) ((mko_bk hF hr he (k : Int) (b := 1) (by omega)).trans hbk)) (by omega)) ?_
      refine RQ.seg 3 (pc' := 56) (L' := [some (.ref 72), some (.int (iI q0)), some (.int (iI 1)), some (.int ((iI (k : Int)) + (iI 1))), some (.int (iI (o3 (mny nw nb W B) (k : Int) 1))), e5]) (st' := []) (g1 := (HW sc (usc (usc (usc ar 74 F0) 75 F1) 76 F2) tx (j + 118) rl ou (otl tl j n f), q)) rfl ?_
      refine RQ.to (L' := [some (.ref 72), some (.int (iI q0)), some (.int (iI 1)), some (.int (iI ((k : Int) + 1))), some (.int (iI (o3 (mny nw nb W B) (k : Int) 1))), e5]) (st' := []) (by simp only [iI_add, iI_sub, iI_mul, iI_neg]) rfl ?_
      exact x_bk1_l hF hX hj hR hlw hL hq0 hb hk m (k + 1) F1 _ _ (by omega) (fun o o0 o1 => (hv o o0 o1).trans (bwn_no hbk).symm)
    · skip
      refine RQ.call rfl rfl (CallR.up (d := 1) (x_backIn_f (d := 0) (o := mko nw nb W B r e (k : Int)) (b := 1) (by omega) (by omega) ((mko_bk hF hr he (k : Int) (b := 1) (by omega)).trans hbk)) (by omega)) ?_
      refine RQ.seg 5 (pc' := 102) (L' := [some (.ref 72), some (.int (iI q0)), some (.int (iI 1)), some (.int (iI (k : Int))), some (.int (iI (o3 (mny nw nb W B) (k : Int) 1))), e5]) (st' := [.int (iI (k : Int)), .ref (j + 118)]) (g1 := (HW sc (usc (usc (usc ar 74 F0) 75 F1) 76 F2) tx (j + 118) rl ou (otl tl j n f), q)) rfl ?_
      refine RQ.ialdv (z := (k : Int)) (v := (mko nw nb W B r e (k : Int))) rfl rfl (HWo_r hj) (by omega) (by omega) (hf (k : Int) (by omega) (by omega)) ?_
      refine RQ.seg 5 (pc' := 112) (L' := [some (.ref 72), some (.int (iI q0)), some (.int (iI 1)), some (.int (iI (k : Int))), some (.int (iI (o3 (mny nw nb W B) (k : Int) 1))), e5]) (st' := [.int (iI q0), .ref 32, .int (iI 1), .int (iI (mko nw nb W B r e (k : Int)))]) (g1 := (HW sc (usc (usc (usc ar 74 F0) 75 F1) 76 F2) tx (j + 118) rl ou (otl tl j n f), q)) rfl ?_
      refine RQ.call rfl rfl (CallR.up (d := 3) (x_gain (d := 0) (sc := sc) (ar := usc (usc (usc ar 74 F0) 75 F1) 76 F2) (o := mko nw nb W B r e (k : Int)) (b := 1) (by omega) (by omega) hlw hL hq0) (by omega)) ?_
      rw [mko_gn hF hL hq0 hr he (k : Int) (b := 1) (by omega)]
      refine RQ.seg 4 (pc' := 122) (L' := [some (.ref 72), some (.int (iI q0)), some (.int (iI 1)), some (.int (iI (k : Int))), some (.int (iI (o3 (mny nw nb W B) (k : Int) 1))), some (.int (iI (rgn nw nb W B (lwq law q0) (k : Int) 1)))]) (st' := [.int (iI 1), .ref 73]) (g1 := (HW sc (usc (usc (usc ar 74 F0) 75 F1) 76 F2) tx (j + 118) rl ou (otl tl j n f), q)) rfl ?_
      refine RQ.aald (z := 1) rfl rfl rfl (by omega) (by decide) ?_
      refine RQ.to (L' := [some (.ref 72), some (.int (iI q0)), some (.int (iI 1)), some (.int (iI (k : Int))), some (.int (iI (o3 (mny nw nb W B) (k : Int) 1))), some (.int (iI (rgn nw nb W B (lwq law q0) (k : Int) 1)))]) (st' := [.ref 75]) rfl rfl ?_
      refine RQ.seg 4 (pc' := 130) (L' := [some (.ref 72), some (.int (iI q0)), some (.int (iI 1)), some (.int (iI (k : Int))), some (.int (iI (o3 (mny nw nb W B) (k : Int) 1))), some (.int (iI (rgn nw nb W B (lwq law q0) (k : Int) 1)))]) (st' := [.int (iI 1), .ref 73, .int (iI (o3 (mny nw nb W B) (k : Int) 1)), .ref 75]) (g1 := (HW sc (usc (usc (usc ar 74 F0) 75 F1) 76 F2) tx (j + 118) rl ou (otl tl j n f), q)) rfl ?_
      refine RQ.aald (z := 1) rfl rfl rfl (by omega) (by decide) ?_
      refine RQ.to (L' := [some (.ref 72), some (.int (iI q0)), some (.int (iI 1)), some (.int (iI (k : Int))), some (.int (iI (o3 (mny nw nb W B) (k : Int) 1))), some (.int (iI (rgn nw nb W B (lwq law q0) (k : Int) 1)))]) (st' := [.ref 75, .int (iI (o3 (mny nw nb W B) (k : Int) 1)), .ref 75]) rfl rfl ?_
      refine RQ.seg 1 (pc' := 133) (L' := [some (.ref 72), some (.int (iI q0)), some (.int (iI 1)), some (.int (iI (k : Int))), some (.int (iI (o3 (mny nw nb W B) (k : Int) 1))), some (.int (iI (rgn nw nb W B (lwq law q0) (k : Int) 1)))]) (st' := [.int (iI (o3 (mny nw nb W B) (k : Int) 1)), .ref 75, .int (iI (o3 (mny nw nb W B) (k : Int) 1)), .ref 75]) (g1 := (HW sc (usc (usc (usc ar 74 F0) 75 F1) 76 F2) tx (j + 118) rl ou (otl tl j n f), q)) rfl ?_
      refine RQ.ialdv (z := (o3 (mny nw nb W B) (k : Int) 1)) (v := (bwn nw nb W B (lwq law q0) 1 (o3 (mny nw nb W B) (k : Int) 1) k)) rfl rfl rfl (by omega) (by decide) (hv (o3 (mny nw nb W B) (k : Int) 1) (by omega) (by omega)) ?_
      refine RQ.seg 1 (pc' := 136) (L' := [some (.ref 72), some (.int (iI q0)), some (.int (iI 1)), some (.int (iI (k : Int))), some (.int (iI (o3 (mny nw nb W B) (k : Int) 1))), some (.int (iI (rgn nw nb W B (lwq law q0) (k : Int) 1)))]) (st' := [.int (iI (rgn nw nb W B (lwq law q0) (k : Int) 1)), .int (iI (bwn nw nb W B (lwq law q0) 1 (o3 (mny nw nb W B) (k : Int) 1) k)), .int (iI (o3 (mny nw nb W B) (k : Int) 1)), .ref 75]) (g1 := (HW sc (usc (usc (usc ar 74 F0) 75 F1) 76 F2) tx (j + 118) rl ou (otl tl j n f), q)) rfl ?_
      refine RQ.call rfl rfl (CallR.up (d := 1) (x_max (d := 0) (a := (bwn nw nb W B (lwq law q0) 1 (o3 (mny nw nb W B) (k : Int) 1) k)) (b := (rgn nw nb W B (lwq law q0) (k : Int) 1)) (by omega) (by omega)) (by omega)) ?_
      refine RQ.iast (z := (o3 (mny nw nb W B) (k : Int) 1)) (v := (max (bwn nw nb W B (lwq law q0) 1 (o3 (mny nw nb W B) (k : Int) 1) k) (rgn nw nb W B (lwq law q0) (k : Int) 1))) (g1 := (HW sc (usc (usc (usc ar 74 F0) 75 (usz F1 (o3 (mny nw nb W B) (k : Int) 1) (max (bwn nw nb W B (lwq law q0) 1 (o3 (mny nw nb W B) (k : Int) 1) k) (rgn nw nb W B (lwq law q0) (k : Int) 1)))) 76 F2) tx (j + 118) rl ou (otl tl j n f), q)) rfl rfl rfl rfl (by omega) (by decide) (HWa_75 (by funext j; unfold usc; cases hb : Nat.beq j 75 <;> first | rfl | (rw [Nat.eq_of_beq_eq_true hb]; rfl))) ?_
      refine RQ.seg 2 (pc' := 56) (L' := [some (.ref 72), some (.int (iI q0)), some (.int (iI 1)), some (.int ((iI (k : Int)) + (iI 1))), some (.int (iI (o3 (mny nw nb W B) (k : Int) 1))), some (.int (iI (rgn nw nb W B (lwq law q0) (k : Int) 1)))]) (st' := []) (g1 := (HW sc (usc (usc (usc ar 74 F0) 75 (usz F1 (o3 (mny nw nb W B) (k : Int) 1) (max (bwn nw nb W B (lwq law q0) 1 (o3 (mny nw nb W B) (k : Int) 1) k) (rgn nw nb W B (lwq law q0) (k : Int) 1)))) 76 F2) tx (j + 118) rl ou (otl tl j n f), q)) rfl ?_
      refine RQ.to (L' := [some (.ref 72), some (.int (iI q0)), some (.int (iI 1)), some (.int (iI ((k : Int) + 1))), some (.int (iI (o3 (mny nw nb W B) (k : Int) 1))), some (.int (iI (rgn nw nb W B (lwq law q0) (k : Int) 1)))]) (st' := []) (by simp only [iI_add, iI_sub, iI_mul, iI_neg]) rfl ?_
      exact x_bk1_l hF hX hj hR hlw hL hq0 hb hk m (k + 1) _ _ _ (by omega) (bwn_up hv hbk hor)
theorem x_bi2_l {K : PK} {d : Nat} {sc : Nat → Int} {ar : Nat → Int → Int} {tx : Nat} {rl : Nat → Option Nat} {ou : Nat → Int64} {tl : List PO} {q : Nat × Nat} {j n : Nat} {f : Int → Int} {Q : Option Value → PG → Prop} {q0 : Int} {e4 e5 : Option Value} {F0 F1 : Int → Int} (hj : j < tl.length) (hk : ∀ F' : Int → Int, (∀ z, 0 ≤ z → z < 625 → F' z = -1000000) → RQ K (d + 3) 5 false none cd66 32 [some (.ref 72), some (.int (iI q0)), some (.int (iI 2)), some (.int (iI 625)), e4, e5] [] (HW sc (usc (usc (usc ar 74 F0) 75 F1) 76 F') tx (j + 118) rl ou (otl tl j n f), q) Q) : ∀ (m : Nat) (o : Int) (F2 : Int → Int) (hm : 0 ≤ o ∧ o + m = 625) (hF : (∀ z, 0 ≤ z → z < o → F2 z = -1000000)), RQ K (d + 3) 5 false none cd66 9 [some (.ref 72), some (.int (iI q0)), some (.int (iI 2)), some (.int (iI o)), e4, e5] [] (HW sc (usc (usc (usc ar 74 F0) 75 F1) 76 F2) tx (j + 118) rl ou (otl tl j n f), q) Q
  | 0, o, F2, hm, hF => by
    refine RQ.seg 2 (pc' := 13) (L' := [some (.ref 72), some (.int (iI q0)), some (.int (iI 2)), some (.int (iI o)), e4, e5]) (st' := [.int (iI 625), .int (iI o)]) (g1 := (HW sc (usc (usc (usc ar 74 F0) 75 F1) 76 F2) tx (j + 118) rl ou (otl tl j n f), q)) rfl ?_
    refine RQ.if2 (a := o) (b := 625) rfl rfl rfl rfl (by omega) (by omega) (fun _ => ?_) (fun (q : ¬ 625 ≤ o) => absurd (show 625 ≤ o from by omega) q)
    obtain rfl : o = 625 := by omega
    exact hk F2 hF
  | m + 1, o, F2, hm, hF => by
    refine RQ.seg 2 (pc' := 13) (L' := [some (.ref 72), some (.int (iI q0)), some (.int (iI 2)), some (.int (iI o)), e4, e5]) (st' := [.int (iI 625), .int (iI o)]) (g1 := (HW sc (usc (usc (usc ar 74 F0) 75 F1) 76 F2) tx (j + 118) rl ou (otl tl j n f), q)) rfl ?_
    refine RQ.if2 (a := o) (b := 625) rfl rfl rfl rfl (by omega) (by omega) (fun (q : 625 ≤ o) => absurd q (show ¬ 625 ≤ o from by omega)) (fun _ => ?_)
    refine RQ.seg 3 (pc' := 21) (L' := [some (.ref 72), some (.int (iI q0)), some (.int (iI 2)), some (.int (iI o)), e4, e5]) (st' := [.int (iI 2), .ref 73]) (g1 := (HW sc (usc (usc (usc ar 74 F0) 75 F1) 76 F2) tx (j + 118) rl ou (otl tl j n f), q)) rfl ?_
    refine RQ.aald (z := 2) rfl rfl rfl (by omega) (by decide) ?_
    refine RQ.to (L' := [some (.ref 72), some (.int (iI q0)), some (.int (iI 2)), some (.int (iI o)), e4, e5]) (st' := [.ref 76]) rfl rfl ?_
    refine RQ.seg 2 (pc' := 25) (L' := [some (.ref 72), some (.int (iI q0)), some (.int (iI 2)), some (.int (iI o)), e4, e5]) (st' := [.int (iI (-1000000)), .int (iI o), .ref 76]) (g1 := (HW sc (usc (usc (usc ar 74 F0) 75 F1) 76 F2) tx (j + 118) rl ou (otl tl j n f), q)) rfl ?_
    refine RQ.iast (z := o) (v := (-1000000)) (g1 := (HW sc (usc (usc (usc ar 74 F0) 75 F1) 76 (usz F2 o (-1000000))) tx (j + 118) rl ou (otl tl j n f), q)) rfl rfl rfl rfl (by omega) (by decide) (HWa_76 (by funext j; unfold usc; cases hb : Nat.beq j 76 <;> first | rfl | (rw [Nat.eq_of_beq_eq_true hb]; rfl))) ?_
    refine RQ.seg 2 (pc' := 9) (L' := [some (.ref 72), some (.int (iI q0)), some (.int (iI 2)), some (.int ((iI o) + (iI 1))), e4, e5]) (st' := []) (g1 := (HW sc (usc (usc (usc ar 74 F0) 75 F1) 76 (usz F2 o (-1000000))) tx (j + 118) rl ou (otl tl j n f), q)) rfl ?_
    refine RQ.to (L' := [some (.ref 72), some (.int (iI q0)), some (.int (iI 2)), some (.int (iI (o + 1))), e4, e5]) (st' := []) (by simp only [iI_add, iI_sub, iI_mul, iI_neg]) rfl ?_
    refine x_bi2_l hj hk m (o + 1) _ (by omega) (fun z z0 z1 => ?_)
    by_cases e : z = o
    · subst e; exact usz_s _ _ _
    · rw [usz_n e]; exact hF z z0 (by omega)
theorem x_bk2_l {K : PK} {d : Nat} {sc : Nat → Int} {ar : Nat → Int → Int} {tx : Nat} {rl : Nat → Option Nat} {ou : Nat → Int64} {tl : List PO} {q : Nat × Nat} {j n : Nat} {f : Int → Int} {Q : Option Value → PG → Prop} {nw nb : Int} {W B : Int → Int → Int} (hF : FrOK nw nb W B) (hX : FrX (sc 303) (sc 304) (ar 5) (ar 6) (ar 7) (ar 8) (ar 10) (ar 11) (ar 12) nw nb W B) {r e : Int → Int} (hj : j < tl.length) (hR : RwK nw nb W B r e n f sc ar) {law : Int → Int} (hlw : ∀ j, 0 ≤ j → j < 4 → ar 32 j = law j) (hL : LwOK law) {q0 : Int} (hq0 : 0 ≤ q0 ∧ q0 ≤ 2) (hb : 2 < nb) {F0 F1 : Int → Int} (hk : ∀ (F' : Int → Int) (e4 e5 : Option Value), (∀ o, 0 ≤ o → o < 625 → F' o = bwn nw nb W B (lwq law q0) 2 o (t3 (mny nw nb W B)).toNat) → RQ K (d + 3) 5 false none cd66 146 [some (.ref 72), some (.int (iI q0)), some (.int (iI 2)), some (.int (iI (t3 (mny nw nb W B)))), e4, e5] [] (HW sc (usc (usc (usc ar 74 F0) 75 F1) 76 F') tx (j + 118) rl ou (otl tl j n f), q) Q) : ∀ (m k : Nat) (F2 : Int → Int) (e4 e5 : Option Value) (hm : (k : Int) + m = t3 (mny nw nb W B)) (hv : (∀ o, 0 ≤ o → o < 625 → F2 o = bwn nw nb W B (lwq law q0) 2 o k)), RQ K (d + 3) 5 false none cd66 56 [some (.ref 72), some (.int (iI q0)), some (.int (iI 2)), some (.int (iI (k : Int))), e4, e5] [] (HW sc (usc (usc (usc ar 74 F0) 75 F1) 76 F2) tx (j + 118) rl ou (otl tl j n f), q) Q
  | 0, k, F2, e4, e5, hm, hv => by
    have hn := hF.1
    have hm1 := hX.1
    have hm2 := hX.2.1
    obtain ⟨hk1, hT, hmo, hn5, ⟨hr, he⟩, hf⟩ := id hR
    have hB := mny_b (nw := nw) (nb := nb) (W := W) (B := B) hF.1.2.1
    have ht3 := t3_r hB
    have hsz : sc 6308 = t3 (mny nw nb W B) := hT.2.2
    refine RQ.seg 4 (pc' := 64) (L' := [some (.ref 72), some (.int (iI q0)), some (.int (iI 2)), some (.int (iI (k : Int))), e4, e5]) (st' := [.int (iI (sc 6308)), .int (iI (k : Int))]) (g1 := (HW sc (usc (usc (usc ar 74 F0) 75 F1) 76 F2) tx (j + 118) rl ou (otl tl j n f), q)) rfl ?_
    refine RQ.to (L' := [some (.ref 72), some (.int (iI q0)), some (.int (iI 2)), some (.int (iI (k : Int))), e4, e5]) (st' := [.int (iI (t3 (mny nw nb W B))), .int (iI (k : Int))]) rfl (by rw [show sc 6308 = t3 (mny nw nb W B) from hsz]) ?_
    refine RQ.if2 (a := (k : Int)) (b := (t3 (mny nw nb W B))) rfl rfl rfl rfl (by omega) (by omega) (fun _ => ?_) (fun (q : ¬ t3 (mny nw nb W B) ≤ (k : Int)) => absurd (show t3 (mny nw nb W B) ≤ (k : Int) from by omega) q)
    have e9 : t3 (mny nw nb W B) = (k : Int) := by omega
    rw [e9, Int.toNat_natCast] at hk
    exact hk F2 e4 e5 hv
  | m + 1, k, F2, e4, e5, hm, hv => by
    have hn := hF.1
    have hm1 := hX.1
    have hm2 := hX.2.1
    obtain ⟨hk1, hT, hmo, hn5, ⟨hr, he⟩, hf⟩ := id hR
    have hB := mny_b (nw := nw) (nb := nb) (W := W) (B := B) hF.1.2.1
    have ht3 := t3_r hB
    have hsz : sc 6308 = t3 (mny nw nb W B) := hT.2.2
    have hor := o3_r hB (i := (k : Int)) (b := 2) (by omega) (by omega)
    have hgr := rgn_r hF (lwq_ok hL hq0) (k : Int) (b := 2) (by omega)
    have hwr := bwn_r hF (lwq_ok hL hq0) (b := 2) (o := o3 (mny nw nb W B) (k : Int) 2) (by omega) k
    refine RQ.seg 4 (pc' := 64) (L' := [some (.ref 72), some (.int (iI q0)), some (.int (iI 2)), some (.int (iI (k : Int))), e4, e5]) (st' := [.int (iI (sc 6308)), .int (iI (k : Int))]) (g1 := (HW sc (usc (usc (usc ar 74 F0) 75 F1) 76 F2) tx (j + 118) rl ou (otl tl j n f), q)) rfl ?_
    refine RQ.to (L' := [some (.ref 72), some (.int (iI q0)), some (.int (iI 2)), some (.int (iI (k : Int))), e4, e5]) (st' := [.int (iI (t3 (mny nw nb W B))), .int (iI (k : Int))]) rfl (by rw [show sc 6308 = t3 (mny nw nb W B) from hsz]) ?_
    refine RQ.if2 (a := (k : Int)) (b := (t3 (mny nw nb W B))) rfl rfl rfl rfl (by omega) (by omega) (fun (q : t3 (mny nw nb W B) ≤ (k : Int)) => absurd q (show ¬ t3 (mny nw nb W B) ≤ (k : Int) from by omega)) (fun _ => ?_)
    refine RQ.seg 4 (pc' := 73) (L' := [some (.ref 72), some (.int (iI q0)), some (.int (iI 2)), some (.int (iI (k : Int))), e4, e5]) (st' := [.int (iI 2), .int (iI (k : Int)), .ref 63]) (g1 := (HW sc (usc (usc (usc ar 74 F0) 75 F1) 76 F2) tx (j + 118) rl ou (otl tl j n f), q)) rfl ?_
    refine RQ.call rfl rfl (CallR.up (d := 1) (x_oth (d := 0) (sc := sc) (ar := usc (usc (usc ar 74 F0) 75 F1) 76 F2) (i := (k : Int)) (b := 2) hF hX hT (by omega) (by omega)) (by omega)) ?_
    refine RQ.seg 5 (pc' := 86) (L' := [some (.ref 72), some (.int (iI q0)), some (.int (iI 2)), some (.int (iI (k : Int))), some (.int (iI (o3 (mny nw nb W B) (k : Int) 2))), e5]) (st' := [.int (iI (k : Int)), .ref (j + 118)]) (g1 := (HW sc (usc (usc (usc ar 74 F0) 75 F1) 76 F2) tx (j + 118) rl ou (otl tl j n f), q)) rfl ?_
    refine RQ.ialdv (z := (k : Int)) (v := (mko nw nb W B r e (k : Int))) rfl rfl (HWo_r hj) (by omega) (by omega) (hf (k : Int) (by omega) (by omega)) ?_
    refine RQ.seg 1 (pc' := 88) (L' := [some (.ref 72), some (.int (iI q0)), some (.int (iI 2)), some (.int (iI (k : Int))), some (.int (iI (o3 (mny nw nb W B) (k : Int) 2))), e5]) (st' := [.int (iI 2), .int (iI (mko nw nb W B r e (k : Int)))]) (g1 := (HW sc (usc (usc (usc ar 74 F0) 75 F1) 76 F2) tx (j + 118) rl ou (otl tl j n f), q)) rfl ?_
    have ho := mko_r hF hr he (k : Int)
    rcases (show rbk nw nb W B (k : Int) 2 = 1 ∨ rbk nw nb W B (k : Int) 2 = 0 by have := rbk_r (nw := nw) (nb := nb) (W := W) (B := B) (k : Int) 2; omega) with hbk | hbk
    · skip
      refine RQ.call rfl rfl (CallR.up (d := 1) (x_backIn_t (d := 0) (o := mko nw nb W B r e (k : Int)) (b := 2) (by omega) (by omega) ((mko_bk hF hr he (k : Int) (b := 2) (by omega)).trans hbk)) (by omega)) ?_
      refine RQ.seg 3 (pc' := 56) (L' := [some (.ref 72), some (.int (iI q0)), some (.int (iI 2)), some (.int ((iI (k : Int)) + (iI 1))), some (.int (iI (o3 (mny nw nb W B) (k : Int) 2))), e5]) (st' := []) (g1 := (HW sc (usc (usc (usc ar 74 F0) 75 F1) 76 F2) tx (j + 118) rl ou (otl tl j n f), q)) rfl ?_
      refine RQ.to (L' := [some (.ref 72), some (.int (iI q0)), some (.int (iI 2)), some (.int (iI ((k : Int) + 1))), some (.int (iI (o3 (mny nw nb W B) (k : Int) 2))), e5]) (st' := []) (by simp only [iI_add, iI_sub, iI_mul, iI_neg]) rfl ?_
      exact x_bk2_l hF hX hj hR hlw hL hq0 hb hk m (k + 1) F2 _ _ (by omega) (fun o o0 o1 => (hv o o0 o1).trans (bwn_no hbk).symm)
    · skip
      refine RQ.call rfl rfl (CallR.up (d := 1) (x_backIn_f (d := 0) (o := mko nw nb W B r e (k : Int)) (b := 2) (by omega) (by omega) ((mko_bk hF hr he (k : Int) (b := 2) (by omega)).trans hbk)) (by omega)) ?_
      refine RQ.seg 5 (pc' := 102) (L' := [some (.ref 72), some (.int (iI q0)), some (.int (iI 2)), some (.int (iI (k : Int))), some (.int (iI (o3 (mny nw nb W B) (k : Int) 2))), e5]) (st' := [.int (iI (k : Int)), .ref (j + 118)]) (g1 := (HW sc (usc (usc (usc ar 74 F0) 75 F1) 76 F2) tx (j + 118) rl ou (otl tl j n f), q)) rfl ?_
      refine RQ.ialdv (z := (k : Int)) (v := (mko nw nb W B r e (k : Int))) rfl rfl (HWo_r hj) (by omega) (by omega) (hf (k : Int) (by omega) (by omega)) ?_
      refine RQ.seg 5 (pc' := 112) (L' := [some (.ref 72), some (.int (iI q0)), some (.int (iI 2)), some (.int (iI (k : Int))), some (.int (iI (o3 (mny nw nb W B) (k : Int) 2))), e5]) (st' := [.int (iI q0), .ref 32, .int (iI 2), .int (iI (mko nw nb W B r e (k : Int)))]) (g1 := (HW sc (usc (usc (usc ar 74 F0) 75 F1) 76 F2) tx (j + 118) rl ou (otl tl j n f), q)) rfl ?_
      refine RQ.call rfl rfl (CallR.up (d := 3) (x_gain (d := 0) (sc := sc) (ar := usc (usc (usc ar 74 F0) 75 F1) 76 F2) (o := mko nw nb W B r e (k : Int)) (b := 2) (by omega) (by omega) hlw hL hq0) (by omega)) ?_
      rw [mko_gn hF hL hq0 hr he (k : Int) (b := 2) (by omega)]
      refine RQ.seg 4 (pc' := 122) (L' := [some (.ref 72), some (.int (iI q0)), some (.int (iI 2)), some (.int (iI (k : Int))), some (.int (iI (o3 (mny nw nb W B) (k : Int) 2))), some (.int (iI (rgn nw nb W B (lwq law q0) (k : Int) 2)))]) (st' := [.int (iI 2), .ref 73]) (g1 := (HW sc (usc (usc (usc ar 74 F0) 75 F1) 76 F2) tx (j + 118) rl ou (otl tl j n f), q)) rfl ?_
      refine RQ.aald (z := 2) rfl rfl rfl (by omega) (by decide) ?_
      refine RQ.to (L' := [some (.ref 72), some (.int (iI q0)), some (.int (iI 2)), some (.int (iI (k : Int))), some (.int (iI (o3 (mny nw nb W B) (k : Int) 2))), some (.int (iI (rgn nw nb W B (lwq law q0) (k : Int) 2)))]) (st' := [.ref 76]) rfl rfl ?_
      refine RQ.seg 4 (pc' := 130) (L' := [some (.ref 72), some (.int (iI q0)), some (.int (iI 2)), some (.int (iI (k : Int))), some (.int (iI (o3 (mny nw nb W B) (k : Int) 2))), some (.int (iI (rgn nw nb W B (lwq law q0) (k : Int) 2)))]) (st' := [.int (iI 2), .ref 73, .int (iI (o3 (mny nw nb W B) (k : Int) 2)), .ref 76]) (g1 := (HW sc (usc (usc (usc ar 74 F0) 75 F1) 76 F2) tx (j + 118) rl ou (otl tl j n f), q)) rfl ?_
      refine RQ.aald (z := 2) rfl rfl rfl (by omega) (by decide) ?_
      refine RQ.to (L' := [some (.ref 72), some (.int (iI q0)), some (.int (iI 2)), some (.int (iI (k : Int))), some (.int (iI (o3 (mny nw nb W B) (k : Int) 2))), some (.int (iI (rgn nw nb W B (lwq law q0) (k : Int) 2)))]) (st' := [.ref 76, .int (iI (o3 (mny nw nb W B) (k : Int) 2)), .ref 76]) rfl rfl ?_
      refine RQ.seg 1 (pc' := 133) (L' := [some (.ref 72), some (.int (iI q0)), some (.int (iI 2)), some (.int (iI (k : Int))), some (.int (iI (o3 (mny nw nb W B) (k : Int) 2))), some (.int (iI (rgn nw nb W B (lwq law q0) (k : Int) 2)))]) (st' := [.int (iI (o3 (mny nw nb W B) (k : Int) 2)), .ref 76, .int (iI (o3 (mny nw nb W B) (k : Int) 2)), .ref 76]) (g1 := (HW sc (usc (usc (usc ar 74 F0) 75 F1) 76 F2) tx (j + 118) rl ou (otl tl j n f), q)) rfl ?_
      refine RQ.ialdv (z := (o3 (mny nw nb W B) (k : Int) 2)) (v := (bwn nw nb W B (lwq law q0) 2 (o3 (mny nw nb W B) (k : Int) 2) k)) rfl rfl rfl (by omega) (by decide) (hv (o3 (mny nw nb W B) (k : Int) 2) (by omega) (by omega)) ?_
      refine RQ.seg 1 (pc' := 136) (L' := [some (.ref 72), some (.int (iI q0)), some (.int (iI 2)), some (.int (iI (k : Int))), some (.int (iI (o3 (mny nw nb W B) (k : Int) 2))), some (.int (iI (rgn nw nb W B (lwq law q0) (k : Int) 2)))]) (st' := [.int (iI (rgn nw nb W B (lwq law q0) (k : Int) 2)), .int (iI (bwn nw nb W B (lwq law q0) 2 (o3 (mny nw nb W B) (k : Int) 2) k)), .int (iI (o3 (mny nw nb W B) (k : Int) 2)), .ref 76]) (g1 := (HW sc (usc (usc (usc ar 74 F0) 75 F1) 76 F2) tx (j + 118) rl ou (otl tl j n f), q)) rfl ?_
      refine RQ.call rfl rfl (CallR.up (d := 1) (x_max (d := 0) (a := (bwn nw nb W B (lwq law q0) 2 (o3 (mny nw nb W B) (k : Int) 2) k)) (b := (rgn nw nb W B (lwq law q0) (k : Int) 2)) (by omega) (by omega)) (by omega)) ?_
      refine RQ.iast (z := (o3 (mny nw nb W B) (k : Int) 2)) (v := (max (bwn nw nb W B (lwq law q0) 2 (o3 (mny nw nb W B) (k : Int) 2) k) (rgn nw nb W B (lwq law q0) (k : Int) 2))) (g1 := (HW sc (usc (usc (usc ar 74 F0) 75 F1) 76 (usz F2 (o3 (mny nw nb W B) (k : Int) 2) (max (bwn nw nb W B (lwq law q0) 2 (o3 (mny nw nb W B) (k : Int) 2) k) (rgn nw nb W B (lwq law q0) (k : Int) 2)))) tx (j + 118) rl ou (otl tl j n f), q)) rfl rfl rfl rfl (by omega) (by decide) (HWa_76 (by funext j; unfold usc; cases hb : Nat.beq j 76 <;> first | rfl | (rw [Nat.eq_of_beq_eq_true hb]; rfl))) ?_
      refine RQ.seg 2 (pc' := 56) (L' := [some (.ref 72), some (.int (iI q0)), some (.int (iI 2)), some (.int ((iI (k : Int)) + (iI 1))), some (.int (iI (o3 (mny nw nb W B) (k : Int) 2))), some (.int (iI (rgn nw nb W B (lwq law q0) (k : Int) 2)))]) (st' := []) (g1 := (HW sc (usc (usc (usc ar 74 F0) 75 F1) 76 (usz F2 (o3 (mny nw nb W B) (k : Int) 2) (max (bwn nw nb W B (lwq law q0) 2 (o3 (mny nw nb W B) (k : Int) 2) k) (rgn nw nb W B (lwq law q0) (k : Int) 2)))) tx (j + 118) rl ou (otl tl j n f), q)) rfl ?_
      refine RQ.to (L' := [some (.ref 72), some (.int (iI q0)), some (.int (iI 2)), some (.int (iI ((k : Int) + 1))), some (.int (iI (o3 (mny nw nb W B) (k : Int) 2))), some (.int (iI (rgn nw nb W B (lwq law q0) (k : Int) 2)))]) (st' := []) (by simp only [iI_add, iI_sub, iI_mul, iI_neg]) rfl ?_
      exact x_bk2_l hF hX hj hR hlw hL hq0 hb hk m (k + 1) _ _ _ (by omega) (bwn_up hv hbk hor)
theorem x_findBest {K : PK} {d : Nat} {sc : Nat → Int} {ar : Nat → Int → Int} {tx : Nat} {rl : Nat → Option Nat} {ou : Nat → Int64} {tl : List PO} {q : Nat × Nat} {j n : Nat} {f : Int → Int} {nw nb : Int} {W B : Int → Int → Int} (hF : FrOK nw nb W B) (hX : FrX (sc 303) (sc 304) (ar 5) (ar 6) (ar 7) (ar 8) (ar 10) (ar 11) (ar 12) nw nb W B) {r e : Int → Int} (hj : j < tl.length) (hR : RwK nw nb W B r e n f sc ar) {law : Int → Int} (hlw : ∀ j, 0 ≤ j → j < 4 → ar 32 j = law j) (hL : LwOK law) {q0 : Int} (hq0 : 0 ≤ q0 ∧ q0 ≤ 2) : CQ K (d + 4) 66 [.ref 72, .int (iI q0)] (HW sc ar tx (j + 118) rl ou (otl tl j n f), q) (fun r' g' => r' = none ∧ ∃ ar', g' = (HW sc ar' tx (j + 118) rl ou (otl tl j n f), q) ∧ Same [74, 75, 76] ar ar' ∧ BwK nw nb W B (lwq law q0) ar') := by
  have hn := hF.1
  have hm1 := hX.1
  have hm2 := hX.2.1
  obtain ⟨hk1, hT, hmo, hn5, ⟨hr, he⟩, hf⟩ := id hR
  have hB := mny_b (nw := nw) (nb := nb) (W := W) (B := B) hF.1.2.1
  have ht3 := t3_r hB
  have hsz : sc 6308 = t3 (mny nw nb W B) := hT.2.2
  refine CQ.of (own := 5) (n := 6) (ini := false) (rt := none) (cd := cd66) (by decide +kernel) rfl (by decide +kernel) rfl (Nat.le_of_ble_eq_true rfl) ?_
  refine RQ.seg 7 (pc' := 9) (L' := [some (.ref 72), some (.int (iI q0)), some (.int (iI 0)), some (.int (iI 0)), none, none]) (st' := []) (g1 := (HW sc ar tx (j + 118) rl ou (otl tl j n f), q)) rfl ?_
  refine RQ.hp (g1 := (HW sc (usc ar 74 (ar 74)) tx (j + 118) rl ou (otl tl j n f), q)) (congrArg (fun a => (HW sc a tx (j + 118) rl ou (otl tl j n f), q)) (show ar = usc ar 74 (ar 74) by funext j; unfold usc; cases hb : Nat.beq j 74 <;> first | rfl | (rw [Nat.eq_of_beq_eq_true hb]; rfl))) ?_
  refine RQ.hp (g1 := (HW sc (usc (usc ar 74 (ar 74)) 75 (ar 75)) tx (j + 118) rl ou (otl tl j n f), q)) (congrArg (fun a => (HW sc a tx (j + 118) rl ou (otl tl j n f), q)) (show usc ar 74 (ar 74) = usc (usc ar 74 (ar 74)) 75 (ar 75) by funext j; unfold usc; cases hb : Nat.beq j 75 <;> first | rfl | (rw [Nat.eq_of_beq_eq_true hb]; rfl))) ?_
  refine RQ.hp (g1 := (HW sc (usc (usc (usc ar 74 (ar 74)) 75 (ar 75)) 76 (ar 76)) tx (j + 118) rl ou (otl tl j n f), q)) (congrArg (fun a => (HW sc a tx (j + 118) rl ou (otl tl j n f), q)) (show usc (usc ar 74 (ar 74)) 75 (ar 75) = usc (usc (usc ar 74 (ar 74)) 75 (ar 75)) 76 (ar 76) by funext j; unfold usc; cases hb : Nat.beq j 76 <;> first | rfl | (rw [Nat.eq_of_beq_eq_true hb]; rfl))) ?_
  refine x_bi0_l (sc := sc) (ar := ar) hj (fun I0 hI0 => ?_) 625 0 _ (by omega) (fun z z0 z1 => absurd z1 (by omega))
  refine RQ.seg 7 (pc' := 9) (L' := [some (.ref 72), some (.int (iI q0)), some (.int (iI 1)), some (.int (iI 0)), none, none]) (st' := []) (g1 := (HW sc (usc (usc (usc ar 74 I0) 75 (ar 75)) 76 (ar 76)) tx (j + 118) rl ou (otl tl j n f), q)) rfl ?_
  refine x_bi1_l (sc := sc) (ar := ar) hj (fun I1 hI1 => ?_) 625 0 _ (by omega) (fun z z0 z1 => absurd z1 (by omega))
  refine RQ.seg 7 (pc' := 9) (L' := [some (.ref 72), some (.int (iI q0)), some (.int (iI 2)), some (.int (iI 0)), none, none]) (st' := []) (g1 := (HW sc (usc (usc (usc ar 74 I0) 75 I1) 76 (ar 76)) tx (j + 118) rl ou (otl tl j n f), q)) rfl ?_
  refine x_bi2_l (sc := sc) (ar := ar) hj (fun I2 hI2 => ?_) 625 0 _ (by omega) (fun z z0 z1 => absurd z1 (by omega))
  refine RQ.seg 12 (pc' := 51) (L' := [some (.ref 72), some (.int (iI q0)), some (.int (iI 0)), some (.int (iI 625)), none, none]) (st' := [.int (iI (sc 304)), .int (iI 0)]) (g1 := (HW sc (usc (usc (usc ar 74 I0) 75 I1) 76 I2) tx (j + 118) rl ou (otl tl j n f), q)) rfl ?_
  refine RQ.if2 (a := 0) (b := (sc 304)) rfl rfl rfl rfl (by omega) (by omega) (fun (h1 : sc 304 ≤ 0) => ?_) (fun (h1 : ¬ sc 304 ≤ 0) => ?_)
  · skip
    refine RQ.ret rfl rfl ?_
    refine ⟨rfl, _, rfl, (by repeat (first | exact Same.rf | refine Same.us rfl ?_)), fun b i b0 b1 i0 i1 => ?_⟩
    exfalso; omega
  · skip
    refine RQ.seg 2 (pc' := 56) (L' := [some (.ref 72), some (.int (iI q0)), some (.int (iI 0)), some (.int (iI 0)), none, none]) (st' := []) (g1 := (HW sc (usc (usc (usc ar 74 I0) 75 I1) 76 I2) tx (j + 118) rl ou (otl tl j n f), q)) rfl ?_
    refine x_bk0_l (sc := sc) (ar := ar) hF hX hj hR hlw hL hq0 (by omega) (fun G0 e4x e5x hG0 => ?_) (t3 (mny nw nb W B)).toNat 0 _ _ _ (by omega) (fun o o0 o1 => hI0 o o0 o1)
    refine RQ.seg 7 (pc' := 51) (L' := [some (.ref 72), some (.int (iI q0)), some (.int (iI 1)), some (.int (iI (t3 (mny nw nb W B)))), e4x, e5x]) (st' := [.int (iI (sc 304)), .int (iI 1)]) (g1 := (HW sc (usc (usc (usc ar 74 G0) 75 I1) 76 I2) tx (j + 118) rl ou (otl tl j n f), q)) rfl ?_
    refine RQ.if2 (a := 1) (b := (sc 304)) rfl rfl rfl rfl (by omega) (by omega) (fun (h2 : sc 304 ≤ 1) => ?_) (fun (h2 : ¬ sc 304 ≤ 1) => ?_)
    · skip
      refine RQ.ret rfl rfl ?_
      refine ⟨rfl, _, rfl, (by repeat (first | exact Same.rf | refine Same.us rfl ?_)), fun b i b0 b1 i0 i1 => ?_⟩
      rcases (show b = 0 by omega) with rfl
      · exact (hG0 _ (o3_r hB ⟨i0, i1⟩ (by omega)).1 (o3_r hB ⟨i0, i1⟩ (by omega)).2).trans (bwn_wrk hF (lwq_ok hL hq0) ⟨i0, i1⟩ (by omega))
    · skip
      refine RQ.seg 2 (pc' := 56) (L' := [some (.ref 72), some (.int (iI q0)), some (.int (iI 1)), some (.int (iI 0)), e4x, e5x]) (st' := []) (g1 := (HW sc (usc (usc (usc ar 74 G0) 75 I1) 76 I2) tx (j + 118) rl ou (otl tl j n f), q)) rfl ?_
      refine x_bk1_l (sc := sc) (ar := ar) hF hX hj hR hlw hL hq0 (by omega) (fun G1 e4x e5x hG1 => ?_) (t3 (mny nw nb W B)).toNat 0 _ _ _ (by omega) (fun o o0 o1 => hI1 o o0 o1)
      refine RQ.seg 7 (pc' := 51) (L' := [some (.ref 72), some (.int (iI q0)), some (.int (iI 2)), some (.int (iI (t3 (mny nw nb W B)))), e4x, e5x]) (st' := [.int (iI (sc 304)), .int (iI 2)]) (g1 := (HW sc (usc (usc (usc ar 74 G0) 75 G1) 76 I2) tx (j + 118) rl ou (otl tl j n f), q)) rfl ?_
      refine RQ.if2 (a := 2) (b := (sc 304)) rfl rfl rfl rfl (by omega) (by omega) (fun (h3 : sc 304 ≤ 2) => ?_) (fun (h3 : ¬ sc 304 ≤ 2) => ?_)
      · skip
        refine RQ.ret rfl rfl ?_
        refine ⟨rfl, _, rfl, (by repeat (first | exact Same.rf | refine Same.us rfl ?_)), fun b i b0 b1 i0 i1 => ?_⟩
        rcases (show b = 0 ∨ b = 1 by omega) with rfl | rfl
        · exact (hG0 _ (o3_r hB ⟨i0, i1⟩ (by omega)).1 (o3_r hB ⟨i0, i1⟩ (by omega)).2).trans (bwn_wrk hF (lwq_ok hL hq0) ⟨i0, i1⟩ (by omega))
        · exact (hG1 _ (o3_r hB ⟨i0, i1⟩ (by omega)).1 (o3_r hB ⟨i0, i1⟩ (by omega)).2).trans (bwn_wrk hF (lwq_ok hL hq0) ⟨i0, i1⟩ (by omega))
      · skip
        refine RQ.seg 2 (pc' := 56) (L' := [some (.ref 72), some (.int (iI q0)), some (.int (iI 2)), some (.int (iI 0)), e4x, e5x]) (st' := []) (g1 := (HW sc (usc (usc (usc ar 74 G0) 75 G1) 76 I2) tx (j + 118) rl ou (otl tl j n f), q)) rfl ?_
        refine x_bk2_l (sc := sc) (ar := ar) hF hX hj hR hlw hL hq0 (by omega) (fun G2 e4x e5x hG2 => ?_) (t3 (mny nw nb W B)).toNat 0 _ _ _ (by omega) (fun o o0 o1 => hI2 o o0 o1)
        refine RQ.seg 7 (pc' := 51) (L' := [some (.ref 72), some (.int (iI q0)), some (.int (iI 3)), some (.int (iI (t3 (mny nw nb W B)))), e4x, e5x]) (st' := [.int (iI (sc 304)), .int (iI 3)]) (g1 := (HW sc (usc (usc (usc ar 74 G0) 75 G1) 76 G2) tx (j + 118) rl ou (otl tl j n f), q)) rfl ?_
        refine RQ.if2 (a := 3) (b := (sc 304)) rfl rfl rfl rfl (by omega) (by omega) (fun _ => ?_) (fun (q : ¬ sc 304 ≤ 3) => absurd (show sc 304 ≤ 3 from by omega) q)
        refine RQ.ret rfl rfl ?_
        refine ⟨rfl, _, rfl, (by repeat (first | exact Same.rf | refine Same.us rfl ?_)), fun b i b0 b1 i0 i1 => ?_⟩
        rcases (show b = 0 ∨ b = 1 ∨ b = 2 by omega) with rfl | rfl | rfl
        · exact (hG0 _ (o3_r hB ⟨i0, i1⟩ (by omega)).1 (o3_r hB ⟨i0, i1⟩ (by omega)).2).trans (bwn_wrk hF (lwq_ok hL hq0) ⟨i0, i1⟩ (by omega))
        · exact (hG1 _ (o3_r hB ⟨i0, i1⟩ (by omega)).1 (o3_r hB ⟨i0, i1⟩ (by omega)).2).trans (bwn_wrk hF (lwq_ok hL hq0) ⟨i0, i1⟩ (by omega))
        · exact (hG2 _ (o3_r hB ⟨i0, i1⟩ (by omega)).1 (o3_r hB ⟨i0, i1⟩ (by omega)).2).trans (bwn_wrk hF (lwq_ok hL hq0) ⟨i0, i1⟩ (by omega))
theorem x_bp_l {K : PK} {d : Nat} {sc : Nat → Int} {ar : Nat → Int → Int} {tx : Nat} {rl : Nat → Option Nat} {ou : Nat → Int64} {tl : List PO} {q : Nat × Nat} {j n : Nat} {f : Int → Int} {Q : Option Value → PG → Prop} {nw nb : Int} {W B : Int → Int → Int} (hF : FrOK nw nb W B) (hX : FrX (sc 303) (sc 304) (ar 5) (ar 6) (ar 7) (ar 8) (ar 10) (ar 11) (ar 12) nw nb W B) {r e : Int → Int} (hj : j < tl.length) (hR : RwK nw nb W B r e n f sc ar) {law : Int → Int} (hlw : ∀ j, 0 ≤ j → j < 4 → ar 32 j = law j) (hL : LwOK law) {q0 : Int} (hq0 : 0 ≤ q0 ∧ q0 ≤ 2) (hW : BwK nw nb W B (lwq law q0) ar) {i : Int} (hi : 0 ≤ i ∧ i < t3 (mny nw nb W B)) (hy1 : ∀ l' u', pyn nw nb W B (lwq law q0) i nb.toNat = some (l', u') → l' ≤ u' → Q (some (.int (iI 1))) (HW (usc (usc sc 7203 l') 7204 u') ar tx (j + 118) rl ou (otl tl j n f), q)) (hy0 : ∀ l' u', (pyn nw nb W B (lwq law q0) i nb.toNat = none ∨ ∃ l u, pyn nw nb W B (lwq law q0) i nb.toNat = some (l, u) ∧ u < l) → Q (some (.int (iI 0))) (HW (usc (usc sc 7203 l') 7204 u') ar tx (j + 118) rl ou (otl tl j n f), q)) : ∀ (m b : Nat) (l u : Int) (e4 e5 : Option Value) (hm : (b : Int) + m = nb) (hp : pyn nw nb W B (lwq law q0) i b = some (l, u)), RQ K (d + 3) 5 false (some .boolean) cd68 13 [some (.ref 72), some (.int (iI i)), some (.int (iI q0)), some (.int (iI (b : Int))), e4, e5] [] (HW (usc (usc sc 7203 l) 7204 u) ar tx (j + 118) rl ou (otl tl j n f), q) Q
  | 0, b, l, u, e4, e5, hm, hp => by
    have hn := hF.1
    have hm1 := hX.1
    have hm2 := hX.2.1
    obtain ⟨hk1, hT, hmo, hn5, ⟨hr, he⟩, hf⟩ := id hR
    have hB := mny_b (nw := nw) (nb := nb) (W := W) (B := B) hF.1.2.1
    have ht3 := t3_r hB
    have hsz : sc 6308 = t3 (mny nw nb W B) := hT.2.2
    have hLq := lwq_ok hL hq0
    have hlu := pyn_r hF hLq b (by omega) l u hp
    refine RQ.seg 5 (pc' := 24) (L' := [some (.ref 72), some (.int (iI i)), some (.int (iI q0)), some (.int (iI (b : Int))), e4, e5]) (st' := [.int (iI (sc 304)), .int (iI (b : Int))]) (g1 := (HW (usc (usc sc 7203 l) 7204 u) ar tx (j + 118) rl ou (otl tl j n f), q)) rfl ?_
    refine RQ.if2 (a := (b : Int)) (b := (sc 304)) rfl rfl rfl rfl (by omega) (by omega) (fun _ => ?_) (fun (q : ¬ sc 304 ≤ (b : Int)) => absurd (show sc 304 ≤ (b : Int) from by omega) q)
    refine RQ.seg 4 (pc' := 136) (L' := [some (.ref 72), some (.int (iI i)), some (.int (iI q0)), some (.int (iI (b : Int))), e4, e5]) (st' := [.int (iI u), .int (iI l)]) (g1 := (HW (usc (usc sc 7203 l) 7204 u) ar tx (j + 118) rl ou (otl tl j n f), q)) rfl ?_
    refine RQ.if2 (a := l) (b := u) rfl rfl rfl rfl (by omega) (by omega) (fun (h2 : u < l) => ?_) (fun (h2 : ¬ u < l) => ?_)
    · skip
      refine RQ.seg 1 (pc' := 144) (L' := [some (.ref 72), some (.int (iI i)), some (.int (iI q0)), some (.int (iI (b : Int))), e4, e5]) (st' := [.int (iI 0)]) (g1 := (HW (usc (usc sc 7203 l) 7204 u) ar tx (j + 118) rl ou (otl tl j n f), q)) rfl ?_
      refine RQ.ret rfl rfl ?_
      rw [show nb.toNat = b by omega] at hy1 hy0
      exact hy0 l u (Or.inr ⟨l, u, hp, by omega⟩)
    · skip
      refine RQ.seg 2 (pc' := 144) (L' := [some (.ref 72), some (.int (iI i)), some (.int (iI q0)), some (.int (iI (b : Int))), e4, e5]) (st' := [.int (iI 1)]) (g1 := (HW (usc (usc sc 7203 l) 7204 u) ar tx (j + 118) rl ou (otl tl j n f), q)) rfl ?_
      refine RQ.ret rfl rfl ?_
      rw [show nb.toNat = b by omega] at hy1 hy0
      exact hy1 l u hp (by omega)
  | m + 1, b, l, u, e4, e5, hm, hp => by
    have hn := hF.1
    have hm1 := hX.1
    have hm2 := hX.2.1
    obtain ⟨hk1, hT, hmo, hn5, ⟨hr, he⟩, hf⟩ := id hR
    have hB := mny_b (nw := nw) (nb := nb) (W := W) (B := B) hF.1.2.1
    have ht3 := t3_r hB
    have hsz : sc 6308 = t3 (mny nw nb W B) := hT.2.2
    have hLq := lwq_ok hL hq0
    have hlu := pyn_r hF hLq b (by omega) l u hp
    have hor := o3_r hB (i := i) (b := (b : Int)) (by omega) (by omega)
    have hgr := rgn_r hF hLq i (b := (b : Int)) (by omega)
    have hwr : -1000000 ≤ wrk nw nb W B (lwq law q0) i (b : Int) ∧ wrk nw nb W B (lwq law q0) i (b : Int) ≤ 4000 := wkn_r hF hLq (i := i) (b := (b : Int)) (by omega) _
    refine RQ.seg 5 (pc' := 24) (L' := [some (.ref 72), some (.int (iI i)), some (.int (iI q0)), some (.int (iI (b : Int))), e4, e5]) (st' := [.int (iI (sc 304)), .int (iI (b : Int))]) (g1 := (HW (usc (usc sc 7203 l) 7204 u) ar tx (j + 118) rl ou (otl tl j n f), q)) rfl ?_
    refine RQ.if2 (a := (b : Int)) (b := (sc 304)) rfl rfl rfl rfl (by omega) (by omega) (fun (q : sc 304 ≤ (b : Int)) => absurd q (show ¬ sc 304 ≤ (b : Int) from by omega)) (fun _ => ?_)
    refine RQ.seg 3 (pc' := 32) (L' := [some (.ref 72), some (.int (iI i)), some (.int (iI q0)), some (.int (iI (b : Int))), e4, e5]) (st' := [.int (iI (b : Int)), .ref 73]) (g1 := (HW (usc (usc sc 7203 l) 7204 u) ar tx (j + 118) rl ou (otl tl j n f), q)) rfl ?_
    refine RQ.aald (z := (b : Int)) rfl rfl rfl (by omega) (by decide) ?_
    refine RQ.seg 4 (pc' := 39) (L' := [some (.ref 72), some (.int (iI i)), some (.int (iI q0)), some (.int (iI (b : Int))), e4, e5]) (st' := [.int (iI (b : Int)), .int (iI i), .ref 63, .ref (74 + ((b : Int)).toNat)]) (g1 := (HW (usc (usc sc 7203 l) 7204 u) ar tx (j + 118) rl ou (otl tl j n f), q)) rfl ?_
    refine RQ.call rfl rfl (CallR.up (d := 1) (x_oth (d := 0) (sc := usc (usc sc 7203 l) 7204 u) (ar := ar) (i := i) (b := (b : Int)) hF hX hT (by omega) (by omega)) (by omega)) ?_
    refine RQ.ialdv (z := (o3 (mny nw nb W B) i (b : Int))) (v := (wrk nw nb W B (lwq law q0) i (b : Int))) rfl rfl (HW_r73 (by omega)) (by omega) (by decide) (hW (b : Int) i (by omega) (by omega) (by omega) (by omega)) ?_
    refine RQ.seg 5 (pc' := 53) (L' := [some (.ref 72), some (.int (iI i)), some (.int (iI q0)), some (.int (iI (b : Int))), some (.int (iI (wrk nw nb W B (lwq law q0) i (b : Int)))), e5]) (st' := [.int (iI i), .ref (j + 118)]) (g1 := (HW (usc (usc sc 7203 l) 7204 u) ar tx (j + 118) rl ou (otl tl j n f), q)) rfl ?_
    refine RQ.ialdv (z := i) (v := (mko nw nb W B r e i)) rfl rfl (HWo_r hj) (by omega) (by omega) (hf i (by omega) (by omega)) ?_
    refine RQ.seg 1 (pc' := 55) (L' := [some (.ref 72), some (.int (iI i)), some (.int (iI q0)), some (.int (iI (b : Int))), some (.int (iI (wrk nw nb W B (lwq law q0) i (b : Int)))), e5]) (st' := [.int (iI (b : Int)), .int (iI (mko nw nb W B r e i))]) (g1 := (HW (usc (usc sc 7203 l) 7204 u) ar tx (j + 118) rl ou (otl tl j n f), q)) rfl ?_
    have ho := mko_r hF hr he i
    rcases (show rbk nw nb W B i (b : Int) = 1 ∨ rbk nw nb W B i (b : Int) = 0 by have := rbk_r (nw := nw) (nb := nb) (W := W) (B := B) i (b : Int); omega) with hbk | hbk
    · skip
      refine RQ.call rfl rfl (CallR.up (d := 1) (x_backIn_t (d := 0) (o := mko nw nb W B r e i) (b := (b : Int)) (by omega) (by omega) ((mko_bk hF hr he i (b := (b : Int)) (by omega)).trans hbk)) (by omega)) ?_
      refine RQ.seg 5 (pc' := 68) (L' := [some (.ref 72), some (.int (iI i)), some (.int (iI q0)), some (.int (iI (b : Int))), some (.int (iI (wrk nw nb W B (lwq law q0) i (b : Int)))), e5]) (st' := [.int (iI (wrk nw nb W B (lwq law q0) i (b : Int))), .int (iI l), .ref 72]) (g1 := (HW (usc (usc sc 7203 l) 7204 u) ar tx (j + 118) rl ou (otl tl j n f), q)) rfl ?_
      refine RQ.call rfl rfl (CallR.up (d := 1) (x_max (d := 0) (a := l) (b := (wrk nw nb W B (lwq law q0) i (b : Int))) (by omega) (by omega)) (by omega)) ?_
      refine RQ.seg 4 (pc' := 13) (L' := [some (.ref 72), some (.int (iI i)), some (.int (iI q0)), some (.int ((iI (b : Int)) + (iI 1))), some (.int (iI (wrk nw nb W B (lwq law q0) i (b : Int)))), e5]) (st' := []) (g1 := (HW (usc (usc sc 7203 (max l (wrk nw nb W B (lwq law q0) i (b : Int)))) 7204 u) ar tx (j + 118) rl ou (otl tl j n f), q)) rfl ?_
      refine RQ.to (L' := [some (.ref 72), some (.int (iI i)), some (.int (iI q0)), some (.int (iI ((b : Int) + 1))), some (.int (iI (wrk nw nb W B (lwq law q0) i (b : Int)))), e5]) (st' := []) (by simp only [iI_add, iI_sub, iI_mul, iI_neg]) rfl ?_
      refine x_bp_l hF hX hj hR hlw hL hq0 hW hi hy1 hy0 m (b + 1) (max l (wrk nw nb W B (lwq law q0) i (b : Int))) u _ _ (by omega) ?_
      rw [pyn, hp]; dsimp only; first | rw [if_pos (by omega)] | rw [if_neg (by omega), if_neg (by omega)]
    · skip
      refine RQ.call rfl rfl (CallR.up (d := 1) (x_backIn_f (d := 0) (o := mko nw nb W B r e i) (b := (b : Int)) (by omega) (by omega) ((mko_bk hF hr he i (b := (b : Int)) (by omega)).trans hbk)) (by omega)) ?_
      refine RQ.seg 5 (pc' := 85) (L' := [some (.ref 72), some (.int (iI i)), some (.int (iI q0)), some (.int (iI (b : Int))), some (.int (iI (wrk nw nb W B (lwq law q0) i (b : Int)))), e5]) (st' := [.int (iI i), .ref (j + 118)]) (g1 := (HW (usc (usc sc 7203 l) 7204 u) ar tx (j + 118) rl ou (otl tl j n f), q)) rfl ?_
      refine RQ.ialdv (z := i) (v := (mko nw nb W B r e i)) rfl rfl (HWo_r hj) (by omega) (by omega) (hf i (by omega) (by omega)) ?_
      refine RQ.seg 5 (pc' := 95) (L' := [some (.ref 72), some (.int (iI i)), some (.int (iI q0)), some (.int (iI (b : Int))), some (.int (iI (wrk nw nb W B (lwq law q0) i (b : Int)))), e5]) (st' := [.int (iI q0), .ref 32, .int (iI (b : Int)), .int (iI (mko nw nb W B r e i))]) (g1 := (HW (usc (usc sc 7203 l) 7204 u) ar tx (j + 118) rl ou (otl tl j n f), q)) rfl ?_
      refine RQ.call rfl rfl (CallR.up (d := 3) (x_gain (d := 0) (sc := usc (usc sc 7203 l) 7204 u) (ar := ar) (o := mko nw nb W B r e i) (b := (b : Int)) (by omega) (by omega) hlw hL hq0) (by omega)) ?_
      rw [mko_gn hF hL hq0 hr he i (b := (b : Int)) (by omega)]
      refine RQ.seg 3 (pc' := 104) (L' := [some (.ref 72), some (.int (iI i)), some (.int (iI q0)), some (.int (iI (b : Int))), some (.int (iI (wrk nw nb W B (lwq law q0) i (b : Int)))), some (.int (iI (rgn nw nb W B (lwq law q0) i (b : Int))))]) (st' := [.int (iI (wrk nw nb W B (lwq law q0) i (b : Int))), .int (iI (rgn nw nb W B (lwq law q0) i (b : Int)))]) (g1 := (HW (usc (usc sc 7203 l) 7204 u) ar tx (j + 118) rl ou (otl tl j n f), q)) rfl ?_
      refine RQ.if2 (a := (rgn nw nb W B (lwq law q0) i (b : Int))) (b := (wrk nw nb W B (lwq law q0) i (b : Int))) rfl rfl rfl rfl (by omega) (by omega) (fun (h2 : wrk nw nb W B (lwq law q0) i (b : Int) ≤ rgn nw nb W B (lwq law q0) i (b : Int)) => ?_) (fun (h2 : ¬ wrk nw nb W B (lwq law q0) i (b : Int) ≤ rgn nw nb W B (lwq law q0) i (b : Int)) => ?_)
      · skip
        refine RQ.seg 4 (pc' := 116) (L' := [some (.ref 72), some (.int (iI i)), some (.int (iI q0)), some (.int (iI (b : Int))), some (.int (iI (wrk nw nb W B (lwq law q0) i (b : Int)))), some (.int (iI (rgn nw nb W B (lwq law q0) i (b : Int))))]) (st' := [.int (iI (rgn nw nb W B (lwq law q0) i (b : Int))), .int (iI u), .ref 72]) (g1 := (HW (usc (usc sc 7203 l) 7204 u) ar tx (j + 118) rl ou (otl tl j n f), q)) rfl ?_
        refine RQ.call rfl rfl (CallR.up (d := 1) (x_min (d := 0) (a := u) (b := (rgn nw nb W B (lwq law q0) i (b : Int))) (by omega) (by omega)) (by omega)) ?_
        refine RQ.seg 3 (pc' := 13) (L' := [some (.ref 72), some (.int (iI i)), some (.int (iI q0)), some (.int ((iI (b : Int)) + (iI 1))), some (.int (iI (wrk nw nb W B (lwq law q0) i (b : Int)))), some (.int (iI (rgn nw nb W B (lwq law q0) i (b : Int))))]) (st' := []) (g1 := (HW (usc (usc sc 7203 l) 7204 (min u (rgn nw nb W B (lwq law q0) i (b : Int)))) ar tx (j + 118) rl ou (otl tl j n f), q)) rfl ?_
        refine RQ.to (L' := [some (.ref 72), some (.int (iI i)), some (.int (iI q0)), some (.int (iI ((b : Int) + 1))), some (.int (iI (wrk nw nb W B (lwq law q0) i (b : Int)))), some (.int (iI (rgn nw nb W B (lwq law q0) i (b : Int))))]) (st' := []) (by simp only [iI_add, iI_sub, iI_mul, iI_neg]) rfl ?_
        refine x_bp_l hF hX hj hR hlw hL hq0 hW hi hy1 hy0 m (b + 1) l (min u (rgn nw nb W B (lwq law q0) i (b : Int))) _ _ (by omega) ?_
        rw [pyn, hp]; dsimp only; first | rw [if_pos (by omega)] | rw [if_neg (by omega), if_neg (by omega)]
      · skip
        refine RQ.seg 1 (pc' := 108) (L' := [some (.ref 72), some (.int (iI i)), some (.int (iI q0)), some (.int (iI (b : Int))), some (.int (iI (wrk nw nb W B (lwq law q0) i (b : Int)))), some (.int (iI (rgn nw nb W B (lwq law q0) i (b : Int))))]) (st' := [.int (iI 0)]) (g1 := (HW (usc (usc sc 7203 l) 7204 u) ar tx (j + 118) rl ou (otl tl j n f), q)) rfl ?_
        refine RQ.ret rfl rfl ?_
        have e9 : pyn nw nb W B (lwq law q0) i (b + 1) = none := by rw [pyn, hp]; dsimp only; rw [if_neg (by omega), if_pos (by omega)]
        exact hy0 l u (Or.inl (pyn_none (b + 1) e9 nb.toNat (by omega)))
theorem x_boundPay {K : PK} {d : Nat} {sc : Nat → Int} {ar : Nat → Int → Int} {tx : Nat} {rl : Nat → Option Nat} {ou : Nat → Int64} {tl : List PO} {q : Nat × Nat} {j n : Nat} {f : Int → Int} {nw nb : Int} {W B : Int → Int → Int} (hF : FrOK nw nb W B) (hX : FrX (sc 303) (sc 304) (ar 5) (ar 6) (ar 7) (ar 8) (ar 10) (ar 11) (ar 12) nw nb W B) {r e : Int → Int} (hj : j < tl.length) (hR : RwK nw nb W B r e n f sc ar) {law : Int → Int} (hlw : ∀ j, 0 ≤ j → j < 4 → ar 32 j = law j) (hL : LwOK law) {q0 : Int} (hq0 : 0 ≤ q0 ∧ q0 ≤ 2) (hW : BwK nw nb W B (lwq law q0) ar) {i : Int} (hi : 0 ≤ i ∧ i < t3 (mny nw nb W B)) : CQ K (d + 4) 68 [.ref 72, .int (iI i), .int (iI q0)] (HW sc ar tx (j + 118) rl ou (otl tl j n f), q) (fun r' g' => ∃ l u, g' = (HW (usc (usc sc 7203 l) 7204 u) ar tx (j + 118) rl ou (otl tl j n f), q) ∧ ((r' = some (.int (iI 1)) ∧ pyn nw nb W B (lwq law q0) i nb.toNat = some (l, u) ∧ l ≤ u) ∨ (r' = some (.int (iI 0)) ∧ (pyn nw nb W B (lwq law q0) i nb.toNat = none ∨ ∃ l u, pyn nw nb W B (lwq law q0) i nb.toNat = some (l, u) ∧ u < l)))) := by
  have hn := hF.1
  have hm1 := hX.1
  have hm2 := hX.2.1
  obtain ⟨hk1, hT, hmo, hn5, ⟨hr, he⟩, hf⟩ := id hR
  have hB := mny_b (nw := nw) (nb := nb) (W := W) (B := B) hF.1.2.1
  have ht3 := t3_r hB
  have hsz : sc 6308 = t3 (mny nw nb W B) := hT.2.2
  refine CQ.of (own := 5) (n := 6) (ini := false) (rt := (some .boolean)) (cd := cd68) (by decide +kernel) rfl (by decide +kernel) rfl (Nat.le_of_ble_eq_true rfl) ?_
  refine RQ.seg 8 (pc' := 13) (L' := [some (.ref 72), some (.int (iI i)), some (.int (iI q0)), some (.int (iI 0)), none, none]) (st' := []) (g1 := (HW (usc (usc sc 7203 0) 7204 99) ar tx (j + 118) rl ou (otl tl j n f), q)) rfl ?_
  exact x_bp_l hF hX hj hR hlw hL hq0 hW hi (fun l u h1 h2 => ⟨l, u, rfl, Or.inl ⟨rfl, h1, h2⟩⟩) (fun l u h1 => ⟨l, u, rfl, Or.inr ⟨rfl, h1⟩⟩) nb.toNat 0 0 99 _ _ (by omega) rfl
theorem x_isRestQ {K : PK} {d : Nat} {sc : Nat → Int} {ar : Nat → Int → Int} {tx : Nat} {rl : Nat → Option Nat} {ou : Nat → Int64} {tl : List PO} {q : Nat × Nat} {j n : Nat} {f : Int → Int} {nw nb : Int} {W B : Int → Int → Int} (hF : FrOK nw nb W B) (hX : FrX (sc 303) (sc 304) (ar 5) (ar 6) (ar 7) (ar 8) (ar 10) (ar 11) (ar 12) nw nb W B) {r e : Int → Int} (hj : j < tl.length) (hR : RwK nw nb W B r e n f sc ar) {law : Int → Int} (hlw : ∀ j, 0 ≤ j → j < 4 → ar 32 j = law j) (hL : LwOK law) {q0 : Int} (hq0 : 0 ≤ q0 ∧ q0 ≤ 2) (hW : BwK nw nb W B (lwq law q0) ar) {i : Int} (hi : 0 ≤ i ∧ i < t3 (mny nw nb W B)) : CQ K (d + 5) 67 [.ref 72, .int (iI i), .int (iI q0)] (HW sc ar tx (j + 118) rl ou (otl tl j n f), q) (fun r' g' => r' = some (.int (iI (rsf nw nb W B (lwq law q0) i))) ∧ ∃ l u, g' = (HW (usc (usc sc 7203 l) 7204 u) ar tx (j + 118) rl ou (otl tl j n f), q)) := by
  have hn := hF.1
  have hm1 := hX.1
  have hm2 := hX.2.1
  obtain ⟨hk1, hT, hmo, hn5, ⟨hr, he⟩, hf⟩ := id hR
  have hB := mny_b (nw := nw) (nb := nb) (W := W) (B := B) hF.1.2.1
  have ht3 := t3_r hB
  have hsz : sc 6308 = t3 (mny nw nb W B) := hT.2.2
  have hLq := lwq_ok hL hq0
  have hLL := hL
  unfold LwOK at hLL
  have hl1 : lwq law q0 1 = law 1 := usz_n (by omega)
  have hrs := rsn_py hF hLq hi nb.toNat (by omega)
  rw [hl1] at hrs
  refine CQ.of (own := 5) (n := 4) (ini := false) (rt := (some .boolean)) (cd := cd67) (by decide +kernel) rfl (by decide +kernel) rfl (Nat.le_of_ble_eq_true rfl) ?_
  refine RQ.seg 4 (pc' := 8) (L' := [some (.ref 72), some (.int (iI i)), some (.int (iI q0)), none]) (st' := [.int (iI 1), .ref 32]) (g1 := (HW sc ar tx (j + 118) rl ou (otl tl j n f), q)) rfl ?_
  refine RQ.ialdv (z := 1) (v := (law 1)) rfl rfl rfl (by omega) (by decide) (hlw 1 (by omega) (by omega)) ?_
  refine RQ.seg 4 (pc' := 13) (L' := [some (.ref 72), some (.int (iI i)), some (.int (iI q0)), some (.int (iI (law 1)))]) (st' := [.int (iI q0), .int (iI i), .ref 72]) (g1 := (HW sc ar tx (j + 118) rl ou (otl tl j n f), q)) rfl ?_
  refine RQ.callQ rfl rfl (x_boundPay hF hX hj hR hlw hL hq0 hW hi) (fun rv g1 hc => ?_)
  obtain ⟨l, u, rfl, ⟨rfl, hp, hle⟩ | ⟨rfl, hp⟩⟩ := hc
  · skip
    have hlu := pyn_r hF hLq nb.toNat (by omega) l u hp
    refine RQ.seg 4 (pc' := 24) (L' := [some (.ref 72), some (.int (iI i)), some (.int (iI q0)), some (.int (iI (law 1)))]) (st' := [.int (iI (law 1)), .int (iI l)]) (g1 := (HW (usc (usc sc 7203 l) 7204 u) ar tx (j + 118) rl ou (otl tl j n f), q)) rfl ?_
    refine RQ.if2 (a := l) (b := (law 1)) rfl rfl rfl rfl (by omega) (by omega) (fun (h1 : law 1 < l) => ?_) (fun (h1 : ¬ law 1 < l) => ?_)
    · skip
      refine RQ.seg 1 (pc' := 40) (L' := [some (.ref 72), some (.int (iI i)), some (.int (iI q0)), some (.int (iI (law 1)))]) (st' := [.int (iI 0)]) (g1 := (HW (usc (usc sc 7203 l) 7204 u) ar tx (j + 118) rl ou (otl tl j n f), q)) rfl ?_
      refine RQ.ret rfl rfl ?_
      refine ⟨?_, l, u, rfl⟩
      have e9 : rsf nw nb W B (lwq law q0) i = 0 := by unfold rsf; refine if_neg (fun z => ?_); obtain ⟨l1, u1, a1, a2, a3⟩ := hrs.mp z; rw [hp] at a1; cases a1; omega
      rw [e9]
    · skip
      refine RQ.seg 3 (pc' := 32) (L' := [some (.ref 72), some (.int (iI i)), some (.int (iI q0)), some (.int (iI (law 1)))]) (st' := [.int (iI u), .int (iI (law 1))]) (g1 := (HW (usc (usc sc 7203 l) 7204 u) ar tx (j + 118) rl ou (otl tl j n f), q)) rfl ?_
      refine RQ.if2 (a := (law 1)) (b := u) rfl rfl rfl rfl (by omega) (by omega) (fun (h2 : u < law 1) => ?_) (fun (h2 : ¬ u < law 1) => ?_)
      · skip
        refine RQ.seg 1 (pc' := 40) (L' := [some (.ref 72), some (.int (iI i)), some (.int (iI q0)), some (.int (iI (law 1)))]) (st' := [.int (iI 0)]) (g1 := (HW (usc (usc sc 7203 l) 7204 u) ar tx (j + 118) rl ou (otl tl j n f), q)) rfl ?_
        refine RQ.ret rfl rfl ?_
        refine ⟨?_, l, u, rfl⟩
        have e9 : rsf nw nb W B (lwq law q0) i = 0 := by unfold rsf; refine if_neg (fun z => ?_); obtain ⟨l1, u1, a1, a2, a3⟩ := hrs.mp z; rw [hp] at a1; cases a1; omega
        rw [e9]
      · skip
        refine RQ.seg 2 (pc' := 40) (L' := [some (.ref 72), some (.int (iI i)), some (.int (iI q0)), some (.int (iI (law 1)))]) (st' := [.int (iI 1)]) (g1 := (HW (usc (usc sc 7203 l) 7204 u) ar tx (j + 118) rl ou (otl tl j n f), q)) rfl ?_
        refine RQ.ret rfl rfl ?_
        refine ⟨?_, l, u, rfl⟩
        have e9 : rsf nw nb W B (lwq law q0) i = 1 := by unfold rsf; exact if_pos (hrs.mpr ⟨l, u, hp, by omega, by omega⟩)
        rw [e9]
  · skip
    refine RQ.seg 2 (pc' := 40) (L' := [some (.ref 72), some (.int (iI i)), some (.int (iI q0)), some (.int (iI (law 1)))]) (st' := [.int (iI 0)]) (g1 := (HW (usc (usc sc 7203 l) 7204 u) ar tx (j + 118) rl ou (otl tl j n f), q)) rfl ?_
    refine RQ.ret rfl rfl ?_
    refine ⟨?_, l, u, rfl⟩
    have e9 : rsf nw nb W B (lwq law q0) i = 0 := by unfold rsf; refine if_neg (fun z => ?_); obtain ⟨l1, u1, a1, a2, a3⟩ := hrs.mp z; rcases hp with hp | ⟨l2, u2, hp, h2⟩ <;> rw [hp] at a1 <;> cases a1; omega
    rw [e9]
