/-! rows of the class: their tables, by wip/tools -/
/-! the rows of the class: tables, the array of outcomes behind both objects -/
def otl (tl : List PO) (j n : Nat) (f : Int → Int) : List PO := tl.set j (.inl (0, n, .inl (zA f)))
theorem HWt_r {sc : Nat → Int} {ar : Nat → Int → Int} {tx oc : Nat} {rl : Nat → Option Nat} {ou : Nat → Int64} (tl : List PO) (j : Nat) : (HW sc ar tx oc rl ou tl)[j + 118]? = tl[j]? := rfl
theorem HWt_s {sc : Nat → Int} {ar : Nat → Int → Int} {tx oc : Nat} {rl : Nat → Option Nat} {ou : Nat → Int64} (tl : List PO) (j : Nat) (x : PO) : (HW sc ar tx oc rl ou tl).set (j + 118) x = HW sc ar tx oc rl ou (tl.set j x) := rfl
theorem HWo_r {sc : Nat → Int} {ar : Nat → Int → Int} {tx oc : Nat} {rl : Nat → Option Nat} {ou : Nat → Int64} {tl : List PO} {j n : Nat} {f : Int → Int} (hj : j < tl.length) : (HW sc ar tx oc rl ou (otl tl j n f))[j + 118]? = some (.inl (0, n, .inl (zA f))) := by
  rw [HWt_r]
  exact List.getElem?_set_self hj
theorem HWo_s {sc : Nat → Int} {ar : Nat → Int → Int} {tx oc : Nat} {rl : Nat → Option Nat} {ou : Nat → Int64} {tl : List PO} {j n : Nat} {f : Int → Int} (_ : j < tl.length) (f' : Int → Int) : (HW sc ar tx oc rl ou (otl tl j n f)).set (j + 118) (.inl (0, n, .inl (zA f'))) = HW sc ar tx oc rl ou (otl tl j n f') := by
  rw [HWt_s]
  unfold otl
  rw [List.set_set]
/-- where the outcomes are, and how many there is room for -/
def OcS (oc : Nat) (tl : List PO) (n : Nat) : Prop := (oc = 71 ∧ n = 0) ∨ ∃ j f, oc = j + 118 ∧ j < tl.length ∧ tl = otl tl j n f
theorem OcS.at {oc n : Nat} {tl : List PO} (h : OcS oc tl n) (sc : Nat → Int) (ar : Nat → Int → Int) (tx : Nat) (rl : Nat → Option Nat) (ou : Nat → Int64) : ∃ f, (HW sc ar tx oc rl ou tl)[oc]? = some (.inl (0, n, .inl f)) := by
  rcases h with ⟨rfl, rfl⟩ | ⟨j, f, rfl, hj, e⟩
  · exact ⟨_, rfl⟩
  · rw [e]; exact ⟨_, HWo_r hj⟩
def nd (nb : Int) : Nat := if nb ≤ 0 then 1 else if nb = 1 then 25 else if nb = 2 then 625 else 15625
theorem otl_len (tl : List PO) (j n : Nat) (f : Int → Int) : (otl tl j n f).length = tl.length := List.length_set
theorem otl_ne {tl : List PO} {j n k : Nat} {f : Int → Int} (h : k ≠ j) : (otl tl j n f)[k]? = tl[k]? := List.getElem?_set_ne (Ne.symm h)
theorem otl_new (tl : List PO) (n : Nat) (f : Int → Int) : tl ++ [.inl (0, n, .inl (zA f))] = otl (tl ++ [.inl (0, n, .inl (zA f))]) tl.length n f := by
  unfold otl
  rw [List.set_append_right _ _ (Nat.le_refl _), Nat.sub_self]
  rfl
theorem otl_otl (tl : List PO) (j n : Nat) (f g : Int → Int) : otl (otl tl j n f) j n g = otl tl j n g := by unfold otl; rw [List.set_set]
/-- the tail behind: all but the outcomes as it was -/
def TlX (oc : Nat) (tl : List PO) (j : Nat) (tl' : List PO) : Prop := tl.length ≤ tl'.length ∧ (∀ k, k < tl.length → k + 118 ≠ oc → tl'[k]? = tl[k]?) ∧ (j + 118 = oc ∨ tl.length ≤ j)
section RQNew
variable {K : PK} {d own : Nat} {ini : Bool} {rt : Option FieldType} {cd : PC} {pc : Nat} {L : PL} {st : List Value} {g : PG} {Q : Option Value → PG → Prop}
theorem RQ.newai {len n : Nat} {g1 : PG} {r : Nat} (hf : pfetch cd pc = some (.newarray .int, len)) (hn : n ≤ 1000000) (hr : g.1.length = r) (hg : (g.1 ++ [.inl (0, n, .inl (zA fun _ => 0))], g.2.1 + 1, g.2.2 + n) = g1) (k : RQ K d own ini rt cd (pc + 2) L (.ref r :: st) g1 Q) : RQ K d own ini rt cd pc L (.int (iI n) :: st) g Q := by
  subst hr hg
  refine RQ.step hf (S := (pc + 2, L, .ref g.1.length :: st, (g.1 ++ [.inl (0, n, .inl (zA fun _ => 0))], g.2.1 + 1, g.2.2 + n))) ?_ k
  show pnewa .int (pc + 2) L g (.int (iI n) :: st) = _
  have e1 : decide (¬ iI (n : Int) < 0) = true := decide_eq_true (iI_nn n (by omega))
  have e2 : Nat.ble n 1000000 = true := Nat.ble_eq_true_of_le hn
  simp only [pnewa, iI_cl n (by omega), e1, e2, Bool.and_self, cond_true]
  rfl
end RQNew
/-- the first that is greatest of so many -/
def amx (f : Int → Int) : Nat → Int
  | 0 => 0
  | n + 1 => if f (amx f n) < f n then n else amx f n
theorem amx_r (f : Int → Int) : ∀ n : Nat, 0 ≤ amx f n ∧ amx f n ≤ n ∧ (0 < n → amx f n < n)
  | 0 => ⟨Int.le_refl _, Int.le_refl _, fun h => absurd h (by omega)⟩
  | n + 1 => by
    have := amx_r f n
    rw [amx]
    split <;> omega
/-- the tables of the rows -/
def RwT (nw nb : Int) (W B : Int → Int → Int) (sc : Nat → Int) (ar : Nat → Int → Int) : Prop := (∀ b, 0 ≤ b → b < 3 → ar 68 b = mny nw nb W B b ∧ ar 69 b = s3 (mny nw nb W B) b) ∧ (∀ k, (0 ≤ k → k < mny nw nb W B 0 → ar 65 k = lat (plx nw nb W B 0) k) ∧ (0 ≤ k → k < mny nw nb W B 1 → ar 66 k = lat (plx nw nb W B 1) k) ∧ (0 ≤ k → k < mny nw nb W B 2 → ar 67 k = lat (plx nw nb W B 2) k)) ∧ sc 6308 = t3 (mny nw nb W B)
theorem RwT.sm {nw nb : Int} {W B : Int → Int → Int} {sc sc' : Nat → Int} {ar ar' : Nat → Int → Int} (hs : Same scF sc sc') (ha : Same scA ar ar') (h : RwT nw nb W B sc ar) : RwT nw nb W B sc' ar' := by
  unfold RwT
  rw [hs 6308 rfl, ha 65 rfl, ha 66 rfl, ha 67 rfl, ha 68 rfl, ha 69 rfl]
  exact h
theorem RwT.row {nw nb : Int} {W B : Int → Int → Int} {sc : Nat → Int} {ar : Nat → Int → Int} (h : RwT nw nb W B sc ar) {b k : Int} (hb : 0 ≤ b ∧ b < 3) (hk : 0 ≤ k ∧ k < mny nw nb W B b) : ar (65 + b.toNat) k = lat (plx nw nb W B b) k := by
  have h2 := h.2.1 k
  rcases (show b = 0 ∨ b = 1 ∨ b = 2 by omega) with rfl | rfl | rfl
  · exact h2.1 hk.1 hk.2
  · exact h2.2.1 hk.1 hk.2
  · exact h2.2.2 hk.1 hk.2
/-- all rows are known: outcomes with their marks -/
def RwK (nw nb : Int) (W B : Int → Int → Int) (r e : Int → Int) (n : Nat) (f : Int → Int) (sc : Nat → Int) (ar : Nat → Int → Int) : Prop := sc 6306 = 1 ∧ RwT nw nb W B sc ar ∧ sc 6309 = amx (rsv nw nb W B) (t3 (mny nw nb W B)).toNat ∧ (t3 (mny nw nb W B) ≤ n ∧ n ≤ 15625) ∧ (Mk01 r ∧ Mk01 e) ∧ ∀ i, 0 ≤ i → i < t3 (mny nw nb W B) → f i = mko nw nb W B r e i
theorem nd_le {nw nb : Int} {W B : Int → Int → Int} (hF : FrOK nw nb W B) : t3 (mny nw nb W B) ≤ nd nb := by
  have hn := hF.1
  have hb := mny_b (nw := nw) (nb := nb) (W := W) (B := B) hn.2.1
  have h0 := hb 0 (by omega) (by omega)
  have h1 := hb 1 (by omega) (by omega)
  have h2 := hb 2 (by omega) (by omega)
  unfold t3 nd
  rcases (show nb = 0 ∨ nb = 1 ∨ nb = 2 ∨ nb = 3 by omega) with rfl | rfl | rfl | rfl
  · rw [mny_f (b := 0) (by omega), mny_f (b := 1) (by omega), mny_f (b := 2) (by omega)]; decide
  · rw [mny_f (b := 1) (by omega), mny_f (b := 2) (by omega), if_neg (by omega), if_pos rfl]; omega
  · have := mle25 (a := mny nw 2 W B 0) (b := mny nw 2 W B 1) (by omega) (by omega)
    rw [mny_f (b := 2) (by omega), if_neg (by omega), if_neg (by omega), if_pos rfl]; omega
  · have e1 := mle25 (a := mny nw 3 W B 0) (b := mny nw 3 W B 1) (by omega) (by omega)
    have e2 := mle625 (a := mny nw 3 W B 0 * mny nw 3 W B 1) (b := mny nw 3 W B 2) (by omega) (by omega)
    rw [if_neg (by omega), if_neg (by omega), if_neg (by omega)]; omega
theorem nd_r (nb : Int) : nd nb ≤ 15625 := by unfold nd; repeat (split <;> (try omega))
theorem x_lp0_l {K : PK} {d : Nat} {sc : Nat → Int} {ar : Nat → Int → Int} {tx oc : Nat} {rl : Nat → Option Nat} {ou : Nat → Int64} {tl : List PO} {q : Nat × Nat} {Q : Option Value → PG → Prop} {nw nb : Int} {W B : Int → Int → Int} (hF : FrOK nw nb W B) (hX : FrX (sc 303) (sc 304) (ar 5) (ar 6) (ar 7) (ar 8) (ar 10) (ar 11) (ar 12) nw nb W B) (hb : 0 < nb) {F1 F2 : Int → Int} : ∀ (m n : Nat) (M F0 : Int → Int) (hm : n + m = 99) (hM : M 0 = ((fl (mb nw W B 0) n).length : Int)) (hF2 : ∀ k, 0 ≤ k → k < ((fl (mb nw W B 0) n).length : Int) → F0 k = lat (fl (mb nw W B 0) n) k) (hk : ∀ (M' F' : Int → Int), (∀ c, c ≠ 0 → M' c = M c) → M' 0 = ((fl (mb nw W B 0) 99).length : Int) → (∀ k, 0 ≤ k → k < ((fl (mb nw W B 0) 99).length : Int) → F' k = lat (fl (mb nw W B 0) 99) k) → RQ K (d + 2) 6 false none cd73 86 [some (.ref 63), some (.int (iI 0)), some (.int (iI 99))] [] (HW sc (usc (usc (usc (usc ar 65 F') 66 F1) 67 F2) 68 M') tx oc rl ou tl, q) Q), RQ K (d + 2) 6 false none cd73 16 [some (.ref 63), some (.int (iI 0)), some (.int (iI (n : Int)))] [] (HW sc (usc (usc (usc (usc ar 65 F0) 66 F1) 67 F2) 68 M) tx oc rl ou tl, q) Q
  | 0, n, M, F0, hm, hM, hF2, hk => by
    have hn := hF.1
    have hm1 := hX.1
    have hm2 := hX.2.1
    have h24 := pls_24 (nw := nw) (W := W) (B := B) (b := 0) hF.1.2.1 (n := n) (by omega)
    refine RQ.seg 2 (pc' := 19) (L' := [some (.ref 63), some (.int (iI 0)), some (.int (iI (n : Int)))]) (st' := [.int (iI 99), .int (iI (n : Int))]) (g1 := (HW sc (usc (usc (usc (usc ar 65 F0) 66 F1) 67 F2) 68 M) tx oc rl ou tl, q)) rfl ?_
    refine RQ.if2 (a := (n : Int)) (b := 99) rfl rfl rfl rfl (by omega) (by omega) (fun _ => ?_) (fun (q : ¬ 99 ≤ (n : Int)) => absurd (show 99 ≤ (n : Int) from by omega) q)
    obtain rfl : n = 99 := by omega
    exact hk M F0 (fun _ _ => rfl) hM hF2
  | m + 1, n, M, F0, hm, hM, hF2, hk => by
    have hn := hF.1
    have hm1 := hX.1
    have hm2 := hX.2.1
    have h24 := pls_24 (nw := nw) (W := W) (B := B) (b := 0) hF.1.2.1 (n := n) (by omega)
    refine RQ.seg 2 (pc' := 19) (L' := [some (.ref 63), some (.int (iI 0)), some (.int (iI (n : Int)))]) (st' := [.int (iI 99), .int (iI (n : Int))]) (g1 := (HW sc (usc (usc (usc (usc ar 65 F0) 66 F1) 67 F2) 68 M) tx oc rl ou tl, q)) rfl ?_
    refine RQ.if2 (a := (n : Int)) (b := 99) rfl rfl rfl rfl (by omega) (by omega) (fun (q : 99 ≤ (n : Int)) => absurd q (show ¬ 99 ≤ (n : Int) from by omega)) (fun _ => ?_)
    refine RQ.seg 4 (pc' := 30) (L' := [some (.ref 63), some (.int (iI 0)), some (.int (iI (n : Int)))]) (st' := [.int (iI (sc 304)), .int (iI 0)]) (g1 := (HW sc (usc (usc (usc (usc ar 65 F0) 66 F1) 67 F2) 68 M) tx oc rl ou tl, q)) rfl ?_
    refine RQ.if2 (a := 0) (b := (sc 304)) rfl rfl rfl rfl (by omega) (by omega) (fun (q : sc 304 ≤ 0) => absurd q (show ¬ sc 304 ≤ 0 from by omega)) (fun _ => ?_)
    refine RQ.seg 4 (pc' := 39) (L' := [some (.ref 63), some (.int (iI 0)), some (.int (iI (n : Int)))]) (st' := [.int (iI (n : Int)), .int (iI 0), .ref 3]) (g1 := (HW sc (usc (usc (usc (usc ar 65 F0) 66 F1) 67 F2) 68 M) tx oc rl ou tl, q)) rfl ?_
    rcases Decidable.em (may nw W B 0 (n : Int)) with hmay | hmay
    · skip
      refine RQ.call rfl rfl (x_may_t hF hX (by omega) (by omega) hmay) ?_
      have h23 := pls_24 (nw := nw) (W := W) (B := B) (b := 0) hF.1.2.1 (n := n + 1) (by omega)
      rw [fl_t (mb_t.mpr hmay), List.length_append, List.length_singleton] at h23
      refine RQ.seg 4 (pc' := 50) (L' := [some (.ref 63), some (.int (iI 0)), some (.int (iI (n : Int)))]) (st' := [.int (iI 0), .ref 68]) (g1 := (HW sc (usc (usc (usc (usc ar 65 F0) 66 F1) 67 F2) 68 M) tx oc rl ou tl, q)) rfl ?_
      refine RQ.ialdv (z := 0) (v := ((fl (mb nw W B 0) n).length : Int)) rfl rfl rfl (by omega) (by decide) hM ?_
      refine RQ.seg 1 (pc' := 53) (L' := [some (.ref 63), some (.int (iI 0)), some (.int (iI (n : Int)))]) (st' := [.int (iI 24), .int (iI ((fl (mb nw W B 0) n).length : Int))]) (g1 := (HW sc (usc (usc (usc (usc ar 65 F0) 66 F1) 67 F2) 68 M) tx oc rl ou tl, q)) rfl ?_
      refine RQ.if2 (a := ((fl (mb nw W B 0) n).length : Int)) (b := 24) rfl rfl rfl rfl (by omega) (by omega) (fun (q : 24 ≤ ((fl (mb nw W B 0) n).length : Int)) => absurd q (show ¬ 24 ≤ ((fl (mb nw W B 0) n).length : Int) from by omega)) (fun _ => ?_)
      refine RQ.seg 3 (pc' := 61) (L' := [some (.ref 63), some (.int (iI 0)), some (.int (iI (n : Int)))]) (st' := [.int (iI 0), .ref 64]) (g1 := (HW sc (usc (usc (usc (usc ar 65 F0) 66 F1) 67 F2) 68 M) tx oc rl ou tl, q)) rfl ?_
      refine RQ.aald (z := 0) rfl rfl rfl (by omega) (by decide) ?_
      refine RQ.to (L' := [some (.ref 63), some (.int (iI 0)), some (.int (iI (n : Int)))]) (st' := [.ref 65]) rfl rfl ?_
      refine RQ.seg 3 (pc' := 67) (L' := [some (.ref 63), some (.int (iI 0)), some (.int (iI (n : Int)))]) (st' := [.int (iI 0), .ref 68, .ref 65]) (g1 := (HW sc (usc (usc (usc (usc ar 65 F0) 66 F1) 67 F2) 68 M) tx oc rl ou tl, q)) rfl ?_
      refine RQ.ialdv (z := 0) (v := ((fl (mb nw W B 0) n).length : Int)) rfl rfl rfl (by omega) (by decide) hM ?_
      refine RQ.seg 1 (pc' := 69) (L' := [some (.ref 63), some (.int (iI 0)), some (.int (iI (n : Int)))]) (st' := [.int (iI (n : Int)), .int (iI ((fl (mb nw W B 0) n).length : Int)), .ref 65]) (g1 := (HW sc (usc (usc (usc (usc ar 65 F0) 66 F1) 67 F2) 68 M) tx oc rl ou tl, q)) rfl ?_
      refine RQ.iast (z := ((fl (mb nw W B 0) n).length : Int)) (v := (n : Int)) (g1 := (HW sc (usc (usc (usc (usc ar 65 (usz F0 ((fl (mb nw W B 0) n).length : Int) (n : Int))) 66 F1) 67 F2) 68 M) tx oc rl ou tl, q)) rfl rfl rfl rfl (by omega) (by decide) (HWa_65 (by funext j; unfold usc; cases hb : Nat.beq j 65 <;> first | rfl | (rw [Nat.eq_of_beq_eq_true hb]; rfl))) ?_
      refine RQ.seg 4 (pc' := 76) (L' := [some (.ref 63), some (.int (iI 0)), some (.int (iI (n : Int)))]) (st' := [.int (iI 0), .ref 68, .int (iI 0), .ref 68]) (g1 := (HW sc (usc (usc (usc (usc ar 65 (usz F0 ((fl (mb nw W B 0) n).length : Int) (n : Int))) 66 F1) 67 F2) 68 M) tx oc rl ou tl, q)) rfl ?_
      refine RQ.ialdv (z := 0) (v := ((fl (mb nw W B 0) n).length : Int)) rfl rfl rfl (by omega) (by decide) hM ?_
      refine RQ.seg 2 (pc' := 79) (L' := [some (.ref 63), some (.int (iI 0)), some (.int (iI (n : Int)))]) (st' := [.int ((iI ((fl (mb nw W B 0) n).length : Int)) + (iI 1)), .int (iI 0), .ref 68]) (g1 := (HW sc (usc (usc (usc (usc ar 65 (usz F0 ((fl (mb nw W B 0) n).length : Int) (n : Int))) 66 F1) 67 F2) 68 M) tx oc rl ou tl, q)) rfl ?_
      refine RQ.iast (z := 0) (v := (((fl (mb nw W B 0) n).length : Int) + 1)) (g1 := (HW sc (usc (usc (usc (usc ar 65 (usz F0 ((fl (mb nw W B 0) n).length : Int) (n : Int))) 66 F1) 67 F2) 68 (usz M 0 (((fl (mb nw W B 0) n).length : Int) + 1))) tx oc rl ou tl, q)) rfl rfl (by simp only [iI_add, iI_sub, iI_mul, iI_neg]) rfl (by omega) (by decide) (HWa_68 (by funext j; unfold usc; cases hb : Nat.beq j 68 <;> first | rfl | (rw [Nat.eq_of_beq_eq_true hb]; rfl))) ?_
      refine RQ.seg 2 (pc' := 16) (L' := [some (.ref 63), some (.int (iI 0)), some (.int ((iI (n : Int)) + (iI 1)))]) (st' := []) (g1 := (HW sc (usc (usc (usc (usc ar 65 (usz F0 ((fl (mb nw W B 0) n).length : Int) (n : Int))) 66 F1) 67 F2) 68 (usz M 0 (((fl (mb nw W B 0) n).length : Int) + 1))) tx oc rl ou tl, q)) rfl ?_
      refine RQ.to (L' := [some (.ref 63), some (.int (iI 0)), some (.int (iI ((n : Int) + 1)))]) (st' := []) (by simp only [iI_add, iI_sub, iI_mul, iI_neg]) rfl ?_
      refine x_lp0_l hF hX hb m (n + 1) _ _ (by omega) ?_ ?_ (fun M2 F2 q1 q2 q3 => hk M2 F2 (fun c hc => (q1 c hc).trans (usz_n hc)) q2 q3)
      · rw [fl_t (mb_t.mpr hmay), usz_s, List.length_append, List.length_singleton]; omega
      · rw [fl_t (mb_t.mpr hmay)]; intro k k0 k1
        rw [List.length_append, List.length_singleton] at k1
        by_cases e : k = ((fl (mb nw W B 0) n).length : Int)
        · subst e; rw [usz_s, lat_e]
        · rw [usz_n e, lat_l (by omega)]; exact hF2 k k0 (by omega)
    · skip
      refine RQ.call rfl rfl (x_may_f hF hX (by omega) (by omega) hmay) ?_
      refine RQ.seg 3 (pc' := 16) (L' := [some (.ref 63), some (.int (iI 0)), some (.int ((iI (n : Int)) + (iI 1)))]) (st' := []) (g1 := (HW sc (usc (usc (usc (usc ar 65 F0) 66 F1) 67 F2) 68 M) tx oc rl ou tl, q)) rfl ?_
      refine RQ.to (L' := [some (.ref 63), some (.int (iI 0)), some (.int (iI ((n : Int) + 1)))]) (st' := []) (by simp only [iI_add, iI_sub, iI_mul, iI_neg]) rfl ?_
      exact x_lp0_l hF hX hb m (n + 1) M F0 (by omega) (by rw [fl_f (mb_f.mpr hmay)]; exact hM) (by rw [fl_f (mb_f.mpr hmay)]; exact hF2) hk
theorem x_lp0_e {K : PK} {d : Nat} {sc : Nat → Int} {ar : Nat → Int → Int} {tx oc : Nat} {rl : Nat → Option Nat} {ou : Nat → Int64} {tl : List PO} {q : Nat × Nat} {Q : Option Value → PG → Prop} {nw nb : Int} {W B : Int → Int → Int} (hF : FrOK nw nb W B) (hX : FrX (sc 303) (sc 304) (ar 5) (ar 6) (ar 7) (ar 8) (ar 10) (ar 11) (ar 12) nw nb W B) {M F0 F1 F2 : Int → Int} {l : List Int} (hl : l.length ≤ 24) (hM : M 0 = (l.length : Int)) (hF2 : ∀ k, 0 ≤ k → k < (l.length : Int) → F0 k = lat l k) (hx : plx nw nb W B 0 = l ++ [99]) {v : Int} (hk : ∀ (M' F' : Int → Int) (e2 : Option Value), (∀ c, c ≠ 0 → M' c = M c) → M' 0 = mny nw nb W B 0 → (∀ k, 0 ≤ k → k < mny nw nb W B 0 → F' k = lat (plx nw nb W B 0) k) → RQ K (d + 2) 6 false none cd73 2 [some (.ref 63), some (.int (iI 1)), e2] [] (HW sc (usc (usc (usc (usc ar 65 F') 66 F1) 67 F2) 68 M') tx oc rl ou tl, q) Q) : RQ K (d + 2) 6 false none cd73 86 [some (.ref 63), some (.int (iI 0)), some (.int (iI v))] [] (HW sc (usc (usc (usc (usc ar 65 F0) 66 F1) 67 F2) 68 M) tx oc rl ou tl, q) Q := by
  have hn := hF.1
  have hm1 := hX.1
  have hm2 := hX.2.1
  refine RQ.seg 3 (pc' := 91) (L' := [some (.ref 63), some (.int (iI 0)), some (.int (iI v))]) (st' := [.int (iI 0), .ref 64]) (g1 := (HW sc (usc (usc (usc (usc ar 65 F0) 66 F1) 67 F2) 68 M) tx oc rl ou tl, q)) rfl ?_
  refine RQ.aald (z := 0) rfl rfl rfl (by omega) (by decide) ?_
  refine RQ.to (L' := [some (.ref 63), some (.int (iI 0)), some (.int (iI v))]) (st' := [.ref 65]) rfl rfl ?_
  refine RQ.seg 3 (pc' := 97) (L' := [some (.ref 63), some (.int (iI 0)), some (.int (iI v))]) (st' := [.int (iI 0), .ref 68, .ref 65]) (g1 := (HW sc (usc (usc (usc (usc ar 65 F0) 66 F1) 67 F2) 68 M) tx oc rl ou tl, q)) rfl ?_
  refine RQ.ialdv (z := 0) (v := (l.length : Int)) rfl rfl rfl (by omega) (by decide) hM ?_
  refine RQ.seg 1 (pc' := 100) (L' := [some (.ref 63), some (.int (iI 0)), some (.int (iI v))]) (st' := [.int (iI 99), .int (iI (l.length : Int)), .ref 65]) (g1 := (HW sc (usc (usc (usc (usc ar 65 F0) 66 F1) 67 F2) 68 M) tx oc rl ou tl, q)) rfl ?_
  refine RQ.iast (z := (l.length : Int)) (v := 99) (g1 := (HW sc (usc (usc (usc (usc ar 65 (usz F0 (l.length : Int) 99)) 66 F1) 67 F2) 68 M) tx oc rl ou tl, q)) rfl rfl rfl rfl (by omega) (by decide) (HWa_65 (by funext j; unfold usc; cases hb : Nat.beq j 65 <;> first | rfl | (rw [Nat.eq_of_beq_eq_true hb]; rfl))) ?_
  refine RQ.seg 4 (pc' := 107) (L' := [some (.ref 63), some (.int (iI 0)), some (.int (iI v))]) (st' := [.int (iI 0), .ref 68, .int (iI 0), .ref 68]) (g1 := (HW sc (usc (usc (usc (usc ar 65 (usz F0 (l.length : Int) 99)) 66 F1) 67 F2) 68 M) tx oc rl ou tl, q)) rfl ?_
  refine RQ.ialdv (z := 0) (v := (l.length : Int)) rfl rfl rfl (by omega) (by decide) hM ?_
  refine RQ.seg 2 (pc' := 110) (L' := [some (.ref 63), some (.int (iI 0)), some (.int (iI v))]) (st' := [.int ((iI (l.length : Int)) + (iI 1)), .int (iI 0), .ref 68]) (g1 := (HW sc (usc (usc (usc (usc ar 65 (usz F0 (l.length : Int) 99)) 66 F1) 67 F2) 68 M) tx oc rl ou tl, q)) rfl ?_
  refine RQ.iast (z := 0) (v := ((l.length : Int) + 1)) (g1 := (HW sc (usc (usc (usc (usc ar 65 (usz F0 (l.length : Int) 99)) 66 F1) 67 F2) 68 (usz M 0 ((l.length : Int) + 1))) tx oc rl ou tl, q)) rfl rfl (by simp only [iI_add, iI_sub, iI_mul, iI_neg]) rfl (by omega) (by decide) (HWa_68 (by funext j; unfold usc; cases hb : Nat.beq j 68 <;> first | rfl | (rw [Nat.eq_of_beq_eq_true hb]; rfl))) ?_
  refine RQ.seg 2 (pc' := 2) (L' := [some (.ref 63), some (.int (iI 1)), some (.int (iI v))]) (st' := []) (g1 := (HW sc (usc (usc (usc (usc ar 65 (usz F0 (l.length : Int) 99)) 66 F1) 67 F2) 68 (usz M 0 ((l.length : Int) + 1))) tx oc rl ou tl, q)) rfl ?_
  have hmx : mny nw nb W B 0 = l.length + 1 := by unfold mny; rw [hx, List.length_append, List.length_singleton]; omega
  refine hk _ _ _ (fun c hc => usz_n hc) ?_ ?_
  · rw [hmx]; exact usz_s _ _ _
  · rw [hx, hmx]; intro k k0 k1
    by_cases e : k = (l.length : Int)
    · subst e; rw [usz_s, lat_e]
    · rw [usz_n e, lat_l (by omega)]; exact hF2 k k0 (by omega)
theorem x_lp0 {K : PK} {d : Nat} {sc : Nat → Int} {ar : Nat → Int → Int} {tx oc : Nat} {rl : Nat → Option Nat} {ou : Nat → Int64} {tl : List PO} {q : Nat × Nat} {Q : Option Value → PG → Prop} {nw nb : Int} {W B : Int → Int → Int} (hF : FrOK nw nb W B) (hX : FrX (sc 303) (sc 304) (ar 5) (ar 6) (ar 7) (ar 8) (ar 10) (ar 11) (ar 12) nw nb W B) {M F0 F1 F2 : Int → Int} {e2 : Option Value} (hk : ∀ (M' F' : Int → Int) (e2 : Option Value), (∀ c, c ≠ 0 → M' c = M c) → M' 0 = mny nw nb W B 0 → (∀ k, 0 ≤ k → k < mny nw nb W B 0 → F' k = lat (plx nw nb W B 0) k) → RQ K (d + 2) 6 false none cd73 2 [some (.ref 63), some (.int (iI 1)), e2] [] (HW sc (usc (usc (usc (usc ar 65 F') 66 F1) 67 F2) 68 M') tx oc rl ou tl, q) Q) : RQ K (d + 2) 6 false none cd73 2 [some (.ref 63), some (.int (iI 0)), e2] [] (HW sc (usc (usc (usc (usc ar 65 F0) 66 F1) 67 F2) 68 M) tx oc rl ou tl, q) Q := by
  have hn := hF.1
  have hm1 := hX.1
  have hm2 := hX.2.1
  refine RQ.seg 7 (pc' := 13) (L' := [some (.ref 63), some (.int (iI 0)), e2]) (st' := [.int (iI 0), .int (iI 0), .ref 68]) (g1 := (HW sc (usc (usc (usc (usc ar 65 F0) 66 F1) 67 F2) 68 M) tx oc rl ou tl, q)) rfl ?_
  refine RQ.iast (z := 0) (v := 0) (g1 := (HW sc (usc (usc (usc (usc ar 65 F0) 66 F1) 67 F2) 68 (usz M 0 0)) tx oc rl ou tl, q)) rfl rfl rfl rfl (by omega) (by decide) (HWa_68 (by funext j; unfold usc; cases hb : Nat.beq j 68 <;> first | rfl | (rw [Nat.eq_of_beq_eq_true hb]; rfl))) ?_
  refine RQ.seg 2 (pc' := 16) (L' := [some (.ref 63), some (.int (iI 0)), some (.int (iI 0))]) (st' := []) (g1 := (HW sc (usc (usc (usc (usc ar 65 F0) 66 F1) 67 F2) 68 (usz M 0 0)) tx oc rl ou tl, q)) rfl ?_
  by_cases hb : (0 : Int) < nb
  · refine x_lp0_l hF hX hb 99 0 (usz M 0 0) F0 (by omega) (usz_s _ _ _) (fun k k0 k1 => absurd k1 (by show ¬ k < 0; omega)) (fun M1 F1x q1 q2 q3 => ?_)
    exact x_lp0_e hF hX (pls_24 hF.1.2.1 (by omega)) q2 q3 ((plx_t hb).trans (pls_eq ..)) (fun M2 F2x e q4 q5 q6 => hk M2 F2x e (fun c hc => (q4 c hc).trans ((q1 c hc).trans (usz_n hc))) q5 q6)
  · skip
    refine RQ.seg 7 (pc' := 30) (L' := [some (.ref 63), some (.int (iI 0)), some (.int (iI 0))]) (st' := [.int (iI (sc 304)), .int (iI 0)]) (g1 := (HW sc (usc (usc (usc (usc ar 65 F0) 66 F1) 67 F2) 68 (usz M 0 0)) tx oc rl ou tl, q)) rfl ?_
    refine RQ.if2 (a := 0) (b := (sc 304)) rfl rfl rfl rfl (by omega) (by omega) (fun _ => ?_) (fun (q : ¬ sc 304 ≤ 0) => absurd (show sc 304 ≤ 0 from by omega) q)
    exact x_lp0_e hF hX (l := []) (by decide) (usz_s _ _ _) (fun k k0 k1 => absurd k1 (by show ¬ k < 0; omega)) (plx_f hb) (fun M2 F2x e q4 q5 q6 => hk M2 F2x e (fun c hc => (q4 c hc).trans (usz_n hc)) q5 q6)
theorem x_lp1_l {K : PK} {d : Nat} {sc : Nat → Int} {ar : Nat → Int → Int} {tx oc : Nat} {rl : Nat → Option Nat} {ou : Nat → Int64} {tl : List PO} {q : Nat × Nat} {Q : Option Value → PG → Prop} {nw nb : Int} {W B : Int → Int → Int} (hF : FrOK nw nb W B) (hX : FrX (sc 303) (sc 304) (ar 5) (ar 6) (ar 7) (ar 8) (ar 10) (ar 11) (ar 12) nw nb W B) (hb : 1 < nb) {F0 F2 : Int → Int} : ∀ (m n : Nat) (M F1 : Int → Int) (hm : n + m = 99) (hM : M 1 = ((fl (mb nw W B 1) n).length : Int)) (hF2 : ∀ k, 0 ≤ k → k < ((fl (mb nw W B 1) n).length : Int) → F1 k = lat (fl (mb nw W B 1) n) k) (hk : ∀ (M' F' : Int → Int), (∀ c, c ≠ 1 → M' c = M c) → M' 1 = ((fl (mb nw W B 1) 99).length : Int) → (∀ k, 0 ≤ k → k < ((fl (mb nw W B 1) 99).length : Int) → F' k = lat (fl (mb nw W B 1) 99) k) → RQ K (d + 2) 6 false none cd73 86 [some (.ref 63), some (.int (iI 1)), some (.int (iI 99))] [] (HW sc (usc (usc (usc (usc ar 65 F0) 66 F') 67 F2) 68 M') tx oc rl ou tl, q) Q), RQ K (d + 2) 6 false none cd73 16 [some (.ref 63), some (.int (iI 1)), some (.int (iI (n : Int)))] [] (HW sc (usc (usc (usc (usc ar 65 F0) 66 F1) 67 F2) 68 M) tx oc rl ou tl, q) Q
  | 0, n, M, F1, hm, hM, hF2, hk => by
    have hn := hF.1
    have hm1 := hX.1
    have hm2 := hX.2.1
    have h24 := pls_24 (nw := nw) (W := W) (B := B) (b := 1) hF.1.2.1 (n := n) (by omega)
    refine RQ.seg 2 (pc' := 19) (L' := [some (.ref 63), some (.int (iI 1)), some (.int (iI (n : Int)))]) (st' := [.int (iI 99), .int (iI (n : Int))]) (g1 := (HW sc (usc (usc (usc (usc ar 65 F0) 66 F1) 67 F2) 68 M) tx oc rl ou tl, q)) rfl ?_
    refine RQ.if2 (a := (n : Int)) (b := 99) rfl rfl rfl rfl (by omega) (by omega) (fun _ => ?_) (fun (q : ¬ 99 ≤ (n : Int)) => absurd (show 99 ≤ (n : Int) from by omega) q)
    obtain rfl : n = 99 := by omega
    exact hk M F1 (fun _ _ => rfl) hM hF2
  | m + 1, n, M, F1, hm, hM, hF2, hk => by
    have hn := hF.1
    have hm1 := hX.1
    have hm2 := hX.2.1
    have h24 := pls_24 (nw := nw) (W := W) (B := B) (b := 1) hF.1.2.1 (n := n) (by omega)
    refine RQ.seg 2 (pc' := 19) (L' := [some (.ref 63), some (.int (iI 1)), some (.int (iI (n : Int)))]) (st' := [.int (iI 99), .int (iI (n : Int))]) (g1 := (HW sc (usc (usc (usc (usc ar 65 F0) 66 F1) 67 F2) 68 M) tx oc rl ou tl, q)) rfl ?_
    refine RQ.if2 (a := (n : Int)) (b := 99) rfl rfl rfl rfl (by omega) (by omega) (fun (q : 99 ≤ (n : Int)) => absurd q (show ¬ 99 ≤ (n : Int) from by omega)) (fun _ => ?_)
    refine RQ.seg 4 (pc' := 30) (L' := [some (.ref 63), some (.int (iI 1)), some (.int (iI (n : Int)))]) (st' := [.int (iI (sc 304)), .int (iI 1)]) (g1 := (HW sc (usc (usc (usc (usc ar 65 F0) 66 F1) 67 F2) 68 M) tx oc rl ou tl, q)) rfl ?_
    refine RQ.if2 (a := 1) (b := (sc 304)) rfl rfl rfl rfl (by omega) (by omega) (fun (q : sc 304 ≤ 1) => absurd q (show ¬ sc 304 ≤ 1 from by omega)) (fun _ => ?_)
    refine RQ.seg 4 (pc' := 39) (L' := [some (.ref 63), some (.int (iI 1)), some (.int (iI (n : Int)))]) (st' := [.int (iI (n : Int)), .int (iI 1), .ref 3]) (g1 := (HW sc (usc (usc (usc (usc ar 65 F0) 66 F1) 67 F2) 68 M) tx oc rl ou tl, q)) rfl ?_
    rcases Decidable.em (may nw W B 1 (n : Int)) with hmay | hmay
    · skip
      refine RQ.call rfl rfl (x_may_t hF hX (by omega) (by omega) hmay) ?_
      have h23 := pls_24 (nw := nw) (W := W) (B := B) (b := 1) hF.1.2.1 (n := n + 1) (by omega)
      rw [fl_t (mb_t.mpr hmay), List.length_append, List.length_singleton] at h23
      refine RQ.seg 4 (pc' := 50) (L' := [some (.ref 63), some (.int (iI 1)), some (.int (iI (n : Int)))]) (st' := [.int (iI 1), .ref 68]) (g1 := (HW sc (usc (usc (usc (usc ar 65 F0) 66 F1) 67 F2) 68 M) tx oc rl ou tl, q)) rfl ?_
      refine RQ.ialdv (z := 1) (v := ((fl (mb nw W B 1) n).length : Int)) rfl rfl rfl (by omega) (by decide) hM ?_
      refine RQ.seg 1 (pc' := 53) (L' := [some (.ref 63), some (.int (iI 1)), some (.int (iI (n : Int)))]) (st' := [.int (iI 24), .int (iI ((fl (mb nw W B 1) n).length : Int))]) (g1 := (HW sc (usc (usc (usc (usc ar 65 F0) 66 F1) 67 F2) 68 M) tx oc rl ou tl, q)) rfl ?_
      refine RQ.if2 (a := ((fl (mb nw W B 1) n).length : Int)) (b := 24) rfl rfl rfl rfl (by omega) (by omega) (fun (q : 24 ≤ ((fl (mb nw W B 1) n).length : Int)) => absurd q (show ¬ 24 ≤ ((fl (mb nw W B 1) n).length : Int) from by omega)) (fun _ => ?_)
      refine RQ.seg 3 (pc' := 61) (L' := [some (.ref 63), some (.int (iI 1)), some (.int (iI (n : Int)))]) (st' := [.int (iI 1), .ref 64]) (g1 := (HW sc (usc (usc (usc (usc ar 65 F0) 66 F1) 67 F2) 68 M) tx oc rl ou tl, q)) rfl ?_
      refine RQ.aald (z := 1) rfl rfl rfl (by omega) (by decide) ?_
      refine RQ.to (L' := [some (.ref 63), some (.int (iI 1)), some (.int (iI (n : Int)))]) (st' := [.ref 66]) rfl rfl ?_
      refine RQ.seg 3 (pc' := 67) (L' := [some (.ref 63), some (.int (iI 1)), some (.int (iI (n : Int)))]) (st' := [.int (iI 1), .ref 68, .ref 66]) (g1 := (HW sc (usc (usc (usc (usc ar 65 F0) 66 F1) 67 F2) 68 M) tx oc rl ou tl, q)) rfl ?_
      refine RQ.ialdv (z := 1) (v := ((fl (mb nw W B 1) n).length : Int)) rfl rfl rfl (by omega) (by decide) hM ?_
      refine RQ.seg 1 (pc' := 69) (L' := [some (.ref 63), some (.int (iI 1)), some (.int (iI (n : Int)))]) (st' := [.int (iI (n : Int)), .int (iI ((fl (mb nw W B 1) n).length : Int)), .ref 66]) (g1 := (HW sc (usc (usc (usc (usc ar 65 F0) 66 F1) 67 F2) 68 M) tx oc rl ou tl, q)) rfl ?_
      refine RQ.iast (z := ((fl (mb nw W B 1) n).length : Int)) (v := (n : Int)) (g1 := (HW sc (usc (usc (usc (usc ar 65 F0) 66 (usz F1 ((fl (mb nw W B 1) n).length : Int) (n : Int))) 67 F2) 68 M) tx oc rl ou tl, q)) rfl rfl rfl rfl (by omega) (by decide) (HWa_66 (by funext j; unfold usc; cases hb : Nat.beq j 66 <;> first | rfl | (rw [Nat.eq_of_beq_eq_true hb]; rfl))) ?_
      refine RQ.seg 4 (pc' := 76) (L' := [some (.ref 63), some (.int (iI 1)), some (.int (iI (n : Int)))]) (st' := [.int (iI 1), .ref 68, .int (iI 1), .ref 68]) (g1 := (HW sc (usc (usc (usc (usc ar 65 F0) 66 (usz F1 ((fl (mb nw W B 1) n).length : Int) (n : Int))) 67 F2) 68 M) tx oc rl ou tl, q)) rfl ?_
      refine RQ.ialdv (z := 1) (v := ((fl (mb nw W B 1) n).length : Int)) rfl rfl rfl (by omega) (by decide) hM ?_
      refine RQ.seg 2 (pc' := 79) (L' := [some (.ref 63), some (.int (iI 1)), some (.int (iI (n : Int)))]) (st' := [.int ((iI ((fl (mb nw W B 1) n).length : Int)) + (iI 1)), .int (iI 1), .ref 68]) (g1 := (HW sc (usc (usc (usc (usc ar 65 F0) 66 (usz F1 ((fl (mb nw W B 1) n).length : Int) (n : Int))) 67 F2) 68 M) tx oc rl ou tl, q)) rfl ?_
      refine RQ.iast (z := 1) (v := (((fl (mb nw W B 1) n).length : Int) + 1)) (g1 := (HW sc (usc (usc (usc (usc ar 65 F0) 66 (usz F1 ((fl (mb nw W B 1) n).length : Int) (n : Int))) 67 F2) 68 (usz M 1 (((fl (mb nw W B 1) n).length : Int) + 1))) tx oc rl ou tl, q)) rfl rfl (by simp only [iI_add, iI_sub, iI_mul, iI_neg]) rfl (by omega) (by decide) (HWa_68 (by funext j; unfold usc; cases hb : Nat.beq j 68 <;> first | rfl | (rw [Nat.eq_of_beq_eq_true hb]; rfl))) ?_
      refine RQ.seg 2 (pc' := 16) (L' := [some (.ref 63), some (.int (iI 1)), some (.int ((iI (n : Int)) + (iI 1)))]) (st' := []) (g1 := (HW sc (usc (usc (usc (usc ar 65 F0) 66 (usz F1 ((fl (mb nw W B 1) n).length : Int) (n : Int))) 67 F2) 68 (usz M 1 (((fl (mb nw W B 1) n).length : Int) + 1))) tx oc rl ou tl, q)) rfl ?_
      refine RQ.to (L' := [some (.ref 63), some (.int (iI 1)), some (.int (iI ((n : Int) + 1)))]) (st' := []) (by simp only [iI_add, iI_sub, iI_mul, iI_neg]) rfl ?_
      refine x_lp1_l hF hX hb m (n + 1) _ _ (by omega) ?_ ?_ (fun M2 F2 q1 q2 q3 => hk M2 F2 (fun c hc => (q1 c hc).trans (usz_n hc)) q2 q3)
      · rw [fl_t (mb_t.mpr hmay), usz_s, List.length_append, List.length_singleton]; omega
      · rw [fl_t (mb_t.mpr hmay)]; intro k k0 k1
        rw [List.length_append, List.length_singleton] at k1
        by_cases e : k = ((fl (mb nw W B 1) n).length : Int)
        · subst e; rw [usz_s, lat_e]
        · rw [usz_n e, lat_l (by omega)]; exact hF2 k k0 (by omega)
    · skip
      refine RQ.call rfl rfl (x_may_f hF hX (by omega) (by omega) hmay) ?_
      refine RQ.seg 3 (pc' := 16) (L' := [some (.ref 63), some (.int (iI 1)), some (.int ((iI (n : Int)) + (iI 1)))]) (st' := []) (g1 := (HW sc (usc (usc (usc (usc ar 65 F0) 66 F1) 67 F2) 68 M) tx oc rl ou tl, q)) rfl ?_
      refine RQ.to (L' := [some (.ref 63), some (.int (iI 1)), some (.int (iI ((n : Int) + 1)))]) (st' := []) (by simp only [iI_add, iI_sub, iI_mul, iI_neg]) rfl ?_
      exact x_lp1_l hF hX hb m (n + 1) M F1 (by omega) (by rw [fl_f (mb_f.mpr hmay)]; exact hM) (by rw [fl_f (mb_f.mpr hmay)]; exact hF2) hk
theorem x_lp1_e {K : PK} {d : Nat} {sc : Nat → Int} {ar : Nat → Int → Int} {tx oc : Nat} {rl : Nat → Option Nat} {ou : Nat → Int64} {tl : List PO} {q : Nat × Nat} {Q : Option Value → PG → Prop} {nw nb : Int} {W B : Int → Int → Int} (hF : FrOK nw nb W B) (hX : FrX (sc 303) (sc 304) (ar 5) (ar 6) (ar 7) (ar 8) (ar 10) (ar 11) (ar 12) nw nb W B) {M F0 F1 F2 : Int → Int} {l : List Int} (hl : l.length ≤ 24) (hM : M 1 = (l.length : Int)) (hF2 : ∀ k, 0 ≤ k → k < (l.length : Int) → F1 k = lat l k) (hx : plx nw nb W B 1 = l ++ [99]) {v : Int} (hk : ∀ (M' F' : Int → Int) (e2 : Option Value), (∀ c, c ≠ 1 → M' c = M c) → M' 1 = mny nw nb W B 1 → (∀ k, 0 ≤ k → k < mny nw nb W B 1 → F' k = lat (plx nw nb W B 1) k) → RQ K (d + 2) 6 false none cd73 2 [some (.ref 63), some (.int (iI 2)), e2] [] (HW sc (usc (usc (usc (usc ar 65 F0) 66 F') 67 F2) 68 M') tx oc rl ou tl, q) Q) : RQ K (d + 2) 6 false none cd73 86 [some (.ref 63), some (.int (iI 1)), some (.int (iI v))] [] (HW sc (usc (usc (usc (usc ar 65 F0) 66 F1) 67 F2) 68 M) tx oc rl ou tl, q) Q := by
  have hn := hF.1
  have hm1 := hX.1
  have hm2 := hX.2.1
  refine RQ.seg 3 (pc' := 91) (L' := [some (.ref 63), some (.int (iI 1)), some (.int (iI v))]) (st' := [.int (iI 1), .ref 64]) (g1 := (HW sc (usc (usc (usc (usc ar 65 F0) 66 F1) 67 F2) 68 M) tx oc rl ou tl, q)) rfl ?_
  refine RQ.aald (z := 1) rfl rfl rfl (by omega) (by decide) ?_
  refine RQ.to (L' := [some (.ref 63), some (.int (iI 1)), some (.int (iI v))]) (st' := [.ref 66]) rfl rfl ?_
  refine RQ.seg 3 (pc' := 97) (L' := [some (.ref 63), some (.int (iI 1)), some (.int (iI v))]) (st' := [.int (iI 1), .ref 68, .ref 66]) (g1 := (HW sc (usc (usc (usc (usc ar 65 F0) 66 F1) 67 F2) 68 M) tx oc rl ou tl, q)) rfl ?_
  refine RQ.ialdv (z := 1) (v := (l.length : Int)) rfl rfl rfl (by omega) (by decide) hM ?_
  refine RQ.seg 1 (pc' := 100) (L' := [some (.ref 63), some (.int (iI 1)), some (.int (iI v))]) (st' := [.int (iI 99), .int (iI (l.length : Int)), .ref 66]) (g1 := (HW sc (usc (usc (usc (usc ar 65 F0) 66 F1) 67 F2) 68 M) tx oc rl ou tl, q)) rfl ?_
  refine RQ.iast (z := (l.length : Int)) (v := 99) (g1 := (HW sc (usc (usc (usc (usc ar 65 F0) 66 (usz F1 (l.length : Int) 99)) 67 F2) 68 M) tx oc rl ou tl, q)) rfl rfl rfl rfl (by omega) (by decide) (HWa_66 (by funext j; unfold usc; cases hb : Nat.beq j 66 <;> first | rfl | (rw [Nat.eq_of_beq_eq_true hb]; rfl))) ?_
  refine RQ.seg 4 (pc' := 107) (L' := [some (.ref 63), some (.int (iI 1)), some (.int (iI v))]) (st' := [.int (iI 1), .ref 68, .int (iI 1), .ref 68]) (g1 := (HW sc (usc (usc (usc (usc ar 65 F0) 66 (usz F1 (l.length : Int) 99)) 67 F2) 68 M) tx oc rl ou tl, q)) rfl ?_
  refine RQ.ialdv (z := 1) (v := (l.length : Int)) rfl rfl rfl (by omega) (by decide) hM ?_
  refine RQ.seg 2 (pc' := 110) (L' := [some (.ref 63), some (.int (iI 1)), some (.int (iI v))]) (st' := [.int ((iI (l.length : Int)) + (iI 1)), .int (iI 1), .ref 68]) (g1 := (HW sc (usc (usc (usc (usc ar 65 F0) 66 (usz F1 (l.length : Int) 99)) 67 F2) 68 M) tx oc rl ou tl, q)) rfl ?_
  refine RQ.iast (z := 1) (v := ((l.length : Int) + 1)) (g1 := (HW sc (usc (usc (usc (usc ar 65 F0) 66 (usz F1 (l.length : Int) 99)) 67 F2) 68 (usz M 1 ((l.length : Int) + 1))) tx oc rl ou tl, q)) rfl rfl (by simp only [iI_add, iI_sub, iI_mul, iI_neg]) rfl (by omega) (by decide) (HWa_68 (by funext j; unfold usc; cases hb : Nat.beq j 68 <;> first | rfl | (rw [Nat.eq_of_beq_eq_true hb]; rfl))) ?_
  refine RQ.seg 2 (pc' := 2) (L' := [some (.ref 63), some (.int (iI 2)), some (.int (iI v))]) (st' := []) (g1 := (HW sc (usc (usc (usc (usc ar 65 F0) 66 (usz F1 (l.length : Int) 99)) 67 F2) 68 (usz M 1 ((l.length : Int) + 1))) tx oc rl ou tl, q)) rfl ?_
  have hmx : mny nw nb W B 1 = l.length + 1 := by unfold mny; rw [hx, List.length_append, List.length_singleton]; omega
  refine hk _ _ _ (fun c hc => usz_n hc) ?_ ?_
  · rw [hmx]; exact usz_s _ _ _
  · rw [hx, hmx]; intro k k0 k1
    by_cases e : k = (l.length : Int)
    · subst e; rw [usz_s, lat_e]
    · rw [usz_n e, lat_l (by omega)]; exact hF2 k k0 (by omega)
theorem x_lp1 {K : PK} {d : Nat} {sc : Nat → Int} {ar : Nat → Int → Int} {tx oc : Nat} {rl : Nat → Option Nat} {ou : Nat → Int64} {tl : List PO} {q : Nat × Nat} {Q : Option Value → PG → Prop} {nw nb : Int} {W B : Int → Int → Int} (hF : FrOK nw nb W B) (hX : FrX (sc 303) (sc 304) (ar 5) (ar 6) (ar 7) (ar 8) (ar 10) (ar 11) (ar 12) nw nb W B) {M F0 F1 F2 : Int → Int} {e2 : Option Value} (hk : ∀ (M' F' : Int → Int) (e2 : Option Value), (∀ c, c ≠ 1 → M' c = M c) → M' 1 = mny nw nb W B 1 → (∀ k, 0 ≤ k → k < mny nw nb W B 1 → F' k = lat (plx nw nb W B 1) k) → RQ K (d + 2) 6 false none cd73 2 [some (.ref 63), some (.int (iI 2)), e2] [] (HW sc (usc (usc (usc (usc ar 65 F0) 66 F') 67 F2) 68 M') tx oc rl ou tl, q) Q) : RQ K (d + 2) 6 false none cd73 2 [some (.ref 63), some (.int (iI 1)), e2] [] (HW sc (usc (usc (usc (usc ar 65 F0) 66 F1) 67 F2) 68 M) tx oc rl ou tl, q) Q := by
  have hn := hF.1
  have hm1 := hX.1
  have hm2 := hX.2.1
  refine RQ.seg 7 (pc' := 13) (L' := [some (.ref 63), some (.int (iI 1)), e2]) (st' := [.int (iI 0), .int (iI 1), .ref 68]) (g1 := (HW sc (usc (usc (usc (usc ar 65 F0) 66 F1) 67 F2) 68 M) tx oc rl ou tl, q)) rfl ?_
  refine RQ.iast (z := 1) (v := 0) (g1 := (HW sc (usc (usc (usc (usc ar 65 F0) 66 F1) 67 F2) 68 (usz M 1 0)) tx oc rl ou tl, q)) rfl rfl rfl rfl (by omega) (by decide) (HWa_68 (by funext j; unfold usc; cases hb : Nat.beq j 68 <;> first | rfl | (rw [Nat.eq_of_beq_eq_true hb]; rfl))) ?_
  refine RQ.seg 2 (pc' := 16) (L' := [some (.ref 63), some (.int (iI 1)), some (.int (iI 0))]) (st' := []) (g1 := (HW sc (usc (usc (usc (usc ar 65 F0) 66 F1) 67 F2) 68 (usz M 1 0)) tx oc rl ou tl, q)) rfl ?_
  by_cases hb : (1 : Int) < nb
  · refine x_lp1_l hF hX hb 99 0 (usz M 1 0) F1 (by omega) (usz_s _ _ _) (fun k k0 k1 => absurd k1 (by show ¬ k < 0; omega)) (fun M1 F1x q1 q2 q3 => ?_)
    exact x_lp1_e hF hX (pls_24 hF.1.2.1 (by omega)) q2 q3 ((plx_t hb).trans (pls_eq ..)) (fun M2 F2x e q4 q5 q6 => hk M2 F2x e (fun c hc => (q4 c hc).trans ((q1 c hc).trans (usz_n hc))) q5 q6)
  · skip
    refine RQ.seg 7 (pc' := 30) (L' := [some (.ref 63), some (.int (iI 1)), some (.int (iI 0))]) (st' := [.int (iI (sc 304)), .int (iI 1)]) (g1 := (HW sc (usc (usc (usc (usc ar 65 F0) 66 F1) 67 F2) 68 (usz M 1 0)) tx oc rl ou tl, q)) rfl ?_
    refine RQ.if2 (a := 1) (b := (sc 304)) rfl rfl rfl rfl (by omega) (by omega) (fun _ => ?_) (fun (q : ¬ sc 304 ≤ 1) => absurd (show sc 304 ≤ 1 from by omega) q)
    exact x_lp1_e hF hX (l := []) (by decide) (usz_s _ _ _) (fun k k0 k1 => absurd k1 (by show ¬ k < 0; omega)) (plx_f hb) (fun M2 F2x e q4 q5 q6 => hk M2 F2x e (fun c hc => (q4 c hc).trans (usz_n hc)) q5 q6)
theorem x_lp2_l {K : PK} {d : Nat} {sc : Nat → Int} {ar : Nat → Int → Int} {tx oc : Nat} {rl : Nat → Option Nat} {ou : Nat → Int64} {tl : List PO} {q : Nat × Nat} {Q : Option Value → PG → Prop} {nw nb : Int} {W B : Int → Int → Int} (hF : FrOK nw nb W B) (hX : FrX (sc 303) (sc 304) (ar 5) (ar 6) (ar 7) (ar 8) (ar 10) (ar 11) (ar 12) nw nb W B) (hb : 2 < nb) {F0 F1 : Int → Int} : ∀ (m n : Nat) (M F2 : Int → Int) (hm : n + m = 99) (hM : M 2 = ((fl (mb nw W B 2) n).length : Int)) (hF2 : ∀ k, 0 ≤ k → k < ((fl (mb nw W B 2) n).length : Int) → F2 k = lat (fl (mb nw W B 2) n) k) (hk : ∀ (M' F' : Int → Int), (∀ c, c ≠ 2 → M' c = M c) → M' 2 = ((fl (mb nw W B 2) 99).length : Int) → (∀ k, 0 ≤ k → k < ((fl (mb nw W B 2) 99).length : Int) → F' k = lat (fl (mb nw W B 2) 99) k) → RQ K (d + 2) 6 false none cd73 86 [some (.ref 63), some (.int (iI 2)), some (.int (iI 99))] [] (HW sc (usc (usc (usc (usc ar 65 F0) 66 F1) 67 F') 68 M') tx oc rl ou tl, q) Q), RQ K (d + 2) 6 false none cd73 16 [some (.ref 63), some (.int (iI 2)), some (.int (iI (n : Int)))] [] (HW sc (usc (usc (usc (usc ar 65 F0) 66 F1) 67 F2) 68 M) tx oc rl ou tl, q) Q
  | 0, n, M, F2, hm, hM, hF2, hk => by
    have hn := hF.1
    have hm1 := hX.1
    have hm2 := hX.2.1
    have h24 := pls_24 (nw := nw) (W := W) (B := B) (b := 2) hF.1.2.1 (n := n) (by omega)
    refine RQ.seg 2 (pc' := 19) (L' := [some (.ref 63), some (.int (iI 2)), some (.int (iI (n : Int)))]) (st' := [.int (iI 99), .int (iI (n : Int))]) (g1 := (HW sc (usc (usc (usc (usc ar 65 F0) 66 F1) 67 F2) 68 M) tx oc rl ou tl, q)) rfl ?_
    refine RQ.if2 (a := (n : Int)) (b := 99) rfl rfl rfl rfl (by omega) (by omega) (fun _ => ?_) (fun (q : ¬ 99 ≤ (n : Int)) => absurd (show 99 ≤ (n : Int) from by omega) q)
    obtain rfl : n = 99 := by omega
    exact hk M F2 (fun _ _ => rfl) hM hF2
  | m + 1, n, M, F2, hm, hM, hF2, hk => by
    have hn := hF.1
    have hm1 := hX.1
    have hm2 := hX.2.1
    have h24 := pls_24 (nw := nw) (W := W) (B := B) (b := 2) hF.1.2.1 (n := n) (by omega)
    refine RQ.seg 2 (pc' := 19) (L' := [some (.ref 63), some (.int (iI 2)), some (.int (iI (n : Int)))]) (st' := [.int (iI 99), .int (iI (n : Int))]) (g1 := (HW sc (usc (usc (usc (usc ar 65 F0) 66 F1) 67 F2) 68 M) tx oc rl ou tl, q)) rfl ?_
    refine RQ.if2 (a := (n : Int)) (b := 99) rfl rfl rfl rfl (by omega) (by omega) (fun (q : 99 ≤ (n : Int)) => absurd q (show ¬ 99 ≤ (n : Int) from by omega)) (fun _ => ?_)
    refine RQ.seg 4 (pc' := 30) (L' := [some (.ref 63), some (.int (iI 2)), some (.int (iI (n : Int)))]) (st' := [.int (iI (sc 304)), .int (iI 2)]) (g1 := (HW sc (usc (usc (usc (usc ar 65 F0) 66 F1) 67 F2) 68 M) tx oc rl ou tl, q)) rfl ?_
    refine RQ.if2 (a := 2) (b := (sc 304)) rfl rfl rfl rfl (by omega) (by omega) (fun (q : sc 304 ≤ 2) => absurd q (show ¬ sc 304 ≤ 2 from by omega)) (fun _ => ?_)
    refine RQ.seg 4 (pc' := 39) (L' := [some (.ref 63), some (.int (iI 2)), some (.int (iI (n : Int)))]) (st' := [.int (iI (n : Int)), .int (iI 2), .ref 3]) (g1 := (HW sc (usc (usc (usc (usc ar 65 F0) 66 F1) 67 F2) 68 M) tx oc rl ou tl, q)) rfl ?_
    rcases Decidable.em (may nw W B 2 (n : Int)) with hmay | hmay
    · skip
      refine RQ.call rfl rfl (x_may_t hF hX (by omega) (by omega) hmay) ?_
      have h23 := pls_24 (nw := nw) (W := W) (B := B) (b := 2) hF.1.2.1 (n := n + 1) (by omega)
      rw [fl_t (mb_t.mpr hmay), List.length_append, List.length_singleton] at h23
      refine RQ.seg 4 (pc' := 50) (L' := [some (.ref 63), some (.int (iI 2)), some (.int (iI (n : Int)))]) (st' := [.int (iI 2), .ref 68]) (g1 := (HW sc (usc (usc (usc (usc ar 65 F0) 66 F1) 67 F2) 68 M) tx oc rl ou tl, q)) rfl ?_
      refine RQ.ialdv (z := 2) (v := ((fl (mb nw W B 2) n).length : Int)) rfl rfl rfl (by omega) (by decide) hM ?_
      refine RQ.seg 1 (pc' := 53) (L' := [some (.ref 63), some (.int (iI 2)), some (.int (iI (n : Int)))]) (st' := [.int (iI 24), .int (iI ((fl (mb nw W B 2) n).length : Int))]) (g1 := (HW sc (usc (usc (usc (usc ar 65 F0) 66 F1) 67 F2) 68 M) tx oc rl ou tl, q)) rfl ?_
      refine RQ.if2 (a := ((fl (mb nw W B 2) n).length : Int)) (b := 24) rfl rfl rfl rfl (by omega) (by omega) (fun (q : 24 ≤ ((fl (mb nw W B 2) n).length : Int)) => absurd q (show ¬ 24 ≤ ((fl (mb nw W B 2) n).length : Int) from by omega)) (fun _ => ?_)
      refine RQ.seg 3 (pc' := 61) (L' := [some (.ref 63), some (.int (iI 2)), some (.int (iI (n : Int)))]) (st' := [.int (iI 2), .ref 64]) (g1 := (HW sc (usc (usc (usc (usc ar 65 F0) 66 F1) 67 F2) 68 M) tx oc rl ou tl, q)) rfl ?_
      refine RQ.aald (z := 2) rfl rfl rfl (by omega) (by decide) ?_
      refine RQ.to (L' := [some (.ref 63), some (.int (iI 2)), some (.int (iI (n : Int)))]) (st' := [.ref 67]) rfl rfl ?_
      refine RQ.seg 3 (pc' := 67) (L' := [some (.ref 63), some (.int (iI 2)), some (.int (iI (n : Int)))]) (st' := [.int (iI 2), .ref 68, .ref 67]) (g1 := (HW sc (usc (usc (usc (usc ar 65 F0) 66 F1) 67 F2) 68 M) tx oc rl ou tl, q)) rfl ?_
      refine RQ.ialdv (z := 2) (v := ((fl (mb nw W B 2) n).length : Int)) rfl rfl rfl (by omega) (by decide) hM ?_
      refine RQ.seg 1 (pc' := 69) (L' := [some (.ref 63), some (.int (iI 2)), some (.int (iI (n : Int)))]) (st' := [.int (iI (n : Int)), .int (iI ((fl (mb nw W B 2) n).length : Int)), .ref 67]) (g1 := (HW sc (usc (usc (usc (usc ar 65 F0) 66 F1) 67 F2) 68 M) tx oc rl ou tl, q)) rfl ?_
      refine RQ.iast (z := ((fl (mb nw W B 2) n).length : Int)) (v := (n : Int)) (g1 := (HW sc (usc (usc (usc (usc ar 65 F0) 66 F1) 67 (usz F2 ((fl (mb nw W B 2) n).length : Int) (n : Int))) 68 M) tx oc rl ou tl, q)) rfl rfl rfl rfl (by omega) (by decide) (HWa_67 (by funext j; unfold usc; cases hb : Nat.beq j 67 <;> first | rfl | (rw [Nat.eq_of_beq_eq_true hb]; rfl))) ?_
      refine RQ.seg 4 (pc' := 76) (L' := [some (.ref 63), some (.int (iI 2)), some (.int (iI (n : Int)))]) (st' := [.int (iI 2), .ref 68, .int (iI 2), .ref 68]) (g1 := (HW sc (usc (usc (usc (usc ar 65 F0) 66 F1) 67 (usz F2 ((fl (mb nw W B 2) n).length : Int) (n : Int))) 68 M) tx oc rl ou tl, q)) rfl ?_
      refine RQ.ialdv (z := 2) (v := ((fl (mb nw W B 2) n).length : Int)) rfl rfl rfl (by omega) (by decide) hM ?_
      refine RQ.seg 2 (pc' := 79) (L' := [some (.ref 63), some (.int (iI 2)), some (.int (iI (n : Int)))]) (st' := [.int ((iI ((fl (mb nw W B 2) n).length : Int)) + (iI 1)), .int (iI 2), .ref 68]) (g1 := (HW sc (usc (usc (usc (usc ar 65 F0) 66 F1) 67 (usz F2 ((fl (mb nw W B 2) n).length : Int) (n : Int))) 68 M) tx oc rl ou tl, q)) rfl ?_
      refine RQ.iast (z := 2) (v := (((fl (mb nw W B 2) n).length : Int) + 1)) (g1 := (HW sc (usc (usc (usc (usc ar 65 F0) 66 F1) 67 (usz F2 ((fl (mb nw W B 2) n).length : Int) (n : Int))) 68 (usz M 2 (((fl (mb nw W B 2) n).length : Int) + 1))) tx oc rl ou tl, q)) rfl rfl (by simp only [iI_add, iI_sub, iI_mul, iI_neg]) rfl (by omega) (by decide) (HWa_68 (by funext j; unfold usc; cases hb : Nat.beq j 68 <;> first | rfl | (rw [Nat.eq_of_beq_eq_true hb]; rfl))) ?_
      refine RQ.seg 2 (pc' := 16) (L' := [some (.ref 63), some (.int (iI 2)), some (.int ((iI (n : Int)) + (iI 1)))]) (st' := []) (g1 := (HW sc (usc (usc (usc (usc ar 65 F0) 66 F1) 67 (usz F2 ((fl (mb nw W B 2) n).length : Int) (n : Int))) 68 (usz M 2 (((fl (mb nw W B 2) n).length : Int) + 1))) tx oc rl ou tl, q)) rfl ?_
      refine RQ.to (L' := [some (.ref 63), some (.int (iI 2)), some (.int (iI ((n : Int) + 1)))]) (st' := []) (by simp only [iI_add, iI_sub, iI_mul, iI_neg]) rfl ?_
      refine x_lp2_l hF hX hb m (n + 1) _ _ (by omega) ?_ ?_ (fun M2 F2 q1 q2 q3 => hk M2 F2 (fun c hc => (q1 c hc).trans (usz_n hc)) q2 q3)
      · rw [fl_t (mb_t.mpr hmay), usz_s, List.length_append, List.length_singleton]; omega
      · rw [fl_t (mb_t.mpr hmay)]; intro k k0 k1
        rw [List.length_append, List.length_singleton] at k1
        by_cases e : k = ((fl (mb nw W B 2) n).length : Int)
        · subst e; rw [usz_s, lat_e]
        · rw [usz_n e, lat_l (by omega)]; exact hF2 k k0 (by omega)
    · skip
      refine RQ.call rfl rfl (x_may_f hF hX (by omega) (by omega) hmay) ?_
      refine RQ.seg 3 (pc' := 16) (L' := [some (.ref 63), some (.int (iI 2)), some (.int ((iI (n : Int)) + (iI 1)))]) (st' := []) (g1 := (HW sc (usc (usc (usc (usc ar 65 F0) 66 F1) 67 F2) 68 M) tx oc rl ou tl, q)) rfl ?_
      refine RQ.to (L' := [some (.ref 63), some (.int (iI 2)), some (.int (iI ((n : Int) + 1)))]) (st' := []) (by simp only [iI_add, iI_sub, iI_mul, iI_neg]) rfl ?_
      exact x_lp2_l hF hX hb m (n + 1) M F2 (by omega) (by rw [fl_f (mb_f.mpr hmay)]; exact hM) (by rw [fl_f (mb_f.mpr hmay)]; exact hF2) hk
theorem x_lp2_e {K : PK} {d : Nat} {sc : Nat → Int} {ar : Nat → Int → Int} {tx oc : Nat} {rl : Nat → Option Nat} {ou : Nat → Int64} {tl : List PO} {q : Nat × Nat} {Q : Option Value → PG → Prop} {nw nb : Int} {W B : Int → Int → Int} (hF : FrOK nw nb W B) (hX : FrX (sc 303) (sc 304) (ar 5) (ar 6) (ar 7) (ar 8) (ar 10) (ar 11) (ar 12) nw nb W B) {M F0 F1 F2 : Int → Int} {l : List Int} (hl : l.length ≤ 24) (hM : M 2 = (l.length : Int)) (hF2 : ∀ k, 0 ≤ k → k < (l.length : Int) → F2 k = lat l k) (hx : plx nw nb W B 2 = l ++ [99]) {v : Int} (hk : ∀ (M' F' : Int → Int) (e2 : Option Value), (∀ c, c ≠ 2 → M' c = M c) → M' 2 = mny nw nb W B 2 → (∀ k, 0 ≤ k → k < mny nw nb W B 2 → F' k = lat (plx nw nb W B 2) k) → RQ K (d + 2) 6 false none cd73 2 [some (.ref 63), some (.int (iI 3)), e2] [] (HW sc (usc (usc (usc (usc ar 65 F0) 66 F1) 67 F') 68 M') tx oc rl ou tl, q) Q) : RQ K (d + 2) 6 false none cd73 86 [some (.ref 63), some (.int (iI 2)), some (.int (iI v))] [] (HW sc (usc (usc (usc (usc ar 65 F0) 66 F1) 67 F2) 68 M) tx oc rl ou tl, q) Q := by
  have hn := hF.1
  have hm1 := hX.1
  have hm2 := hX.2.1
  refine RQ.seg 3 (pc' := 91) (L' := [some (.ref 63), some (.int (iI 2)), some (.int (iI v))]) (st' := [.int (iI 2), .ref 64]) (g1 := (HW sc (usc (usc (usc (usc ar 65 F0) 66 F1) 67 F2) 68 M) tx oc rl ou tl, q)) rfl ?_
  refine RQ.aald (z := 2) rfl rfl rfl (by omega) (by decide) ?_
  refine RQ.to (L' := [some (.ref 63), some (.int (iI 2)), some (.int (iI v))]) (st' := [.ref 67]) rfl rfl ?_
  refine RQ.seg 3 (pc' := 97) (L' := [some (.ref 63), some (.int (iI 2)), some (.int (iI v))]) (st' := [.int (iI 2), .ref 68, .ref 67]) (g1 := (HW sc (usc (usc (usc (usc ar 65 F0) 66 F1) 67 F2) 68 M) tx oc rl ou tl, q)) rfl ?_
  refine RQ.ialdv (z := 2) (v := (l.length : Int)) rfl rfl rfl (by omega) (by decide) hM ?_
  refine RQ.seg 1 (pc' := 100) (L' := [some (.ref 63), some (.int (iI 2)), some (.int (iI v))]) (st' := [.int (iI 99), .int (iI (l.length : Int)), .ref 67]) (g1 := (HW sc (usc (usc (usc (usc ar 65 F0) 66 F1) 67 F2) 68 M) tx oc rl ou tl, q)) rfl ?_
  refine RQ.iast (z := (l.length : Int)) (v := 99) (g1 := (HW sc (usc (usc (usc (usc ar 65 F0) 66 F1) 67 (usz F2 (l.length : Int) 99)) 68 M) tx oc rl ou tl, q)) rfl rfl rfl rfl (by omega) (by decide) (HWa_67 (by funext j; unfold usc; cases hb : Nat.beq j 67 <;> first | rfl | (rw [Nat.eq_of_beq_eq_true hb]; rfl))) ?_
  refine RQ.seg 4 (pc' := 107) (L' := [some (.ref 63), some (.int (iI 2)), some (.int (iI v))]) (st' := [.int (iI 2), .ref 68, .int (iI 2), .ref 68]) (g1 := (HW sc (usc (usc (usc (usc ar 65 F0) 66 F1) 67 (usz F2 (l.length : Int) 99)) 68 M) tx oc rl ou tl, q)) rfl ?_
  refine RQ.ialdv (z := 2) (v := (l.length : Int)) rfl rfl rfl (by omega) (by decide) hM ?_
  refine RQ.seg 2 (pc' := 110) (L' := [some (.ref 63), some (.int (iI 2)), some (.int (iI v))]) (st' := [.int ((iI (l.length : Int)) + (iI 1)), .int (iI 2), .ref 68]) (g1 := (HW sc (usc (usc (usc (usc ar 65 F0) 66 F1) 67 (usz F2 (l.length : Int) 99)) 68 M) tx oc rl ou tl, q)) rfl ?_
  refine RQ.iast (z := 2) (v := ((l.length : Int) + 1)) (g1 := (HW sc (usc (usc (usc (usc ar 65 F0) 66 F1) 67 (usz F2 (l.length : Int) 99)) 68 (usz M 2 ((l.length : Int) + 1))) tx oc rl ou tl, q)) rfl rfl (by simp only [iI_add, iI_sub, iI_mul, iI_neg]) rfl (by omega) (by decide) (HWa_68 (by funext j; unfold usc; cases hb : Nat.beq j 68 <;> first | rfl | (rw [Nat.eq_of_beq_eq_true hb]; rfl))) ?_
  refine RQ.seg 2 (pc' := 2) (L' := [some (.ref 63), some (.int (iI 3)), some (.int (iI v))]) (st' := []) (g1 := (HW sc (usc (usc (usc (usc ar 65 F0) 66 F1) 67 (usz F2 (l.length : Int) 99)) 68 (usz M 2 ((l.length : Int) + 1))) tx oc rl ou tl, q)) rfl ?_
  have hmx : mny nw nb W B 2 = l.length + 1 := by unfold mny; rw [hx, List.length_append, List.length_singleton]; omega
  refine hk _ _ _ (fun c hc => usz_n hc) ?_ ?_
  · rw [hmx]; exact usz_s _ _ _
  · rw [hx, hmx]; intro k k0 k1
    by_cases e : k = (l.length : Int)
    · subst e; rw [usz_s, lat_e]
    · rw [usz_n e, lat_l (by omega)]; exact hF2 k k0 (by omega)
theorem x_lp2 {K : PK} {d : Nat} {sc : Nat → Int} {ar : Nat → Int → Int} {tx oc : Nat} {rl : Nat → Option Nat} {ou : Nat → Int64} {tl : List PO} {q : Nat × Nat} {Q : Option Value → PG → Prop} {nw nb : Int} {W B : Int → Int → Int} (hF : FrOK nw nb W B) (hX : FrX (sc 303) (sc 304) (ar 5) (ar 6) (ar 7) (ar 8) (ar 10) (ar 11) (ar 12) nw nb W B) {M F0 F1 F2 : Int → Int} {e2 : Option Value} (hk : ∀ (M' F' : Int → Int) (e2 : Option Value), (∀ c, c ≠ 2 → M' c = M c) → M' 2 = mny nw nb W B 2 → (∀ k, 0 ≤ k → k < mny nw nb W B 2 → F' k = lat (plx nw nb W B 2) k) → RQ K (d + 2) 6 false none cd73 2 [some (.ref 63), some (.int (iI 3)), e2] [] (HW sc (usc (usc (usc (usc ar 65 F0) 66 F1) 67 F') 68 M') tx oc rl ou tl, q) Q) : RQ K (d + 2) 6 false none cd73 2 [some (.ref 63), some (.int (iI 2)), e2] [] (HW sc (usc (usc (usc (usc ar 65 F0) 66 F1) 67 F2) 68 M) tx oc rl ou tl, q) Q := by
  have hn := hF.1
  have hm1 := hX.1
  have hm2 := hX.2.1
  refine RQ.seg 7 (pc' := 13) (L' := [some (.ref 63), some (.int (iI 2)), e2]) (st' := [.int (iI 0), .int (iI 2), .ref 68]) (g1 := (HW sc (usc (usc (usc (usc ar 65 F0) 66 F1) 67 F2) 68 M) tx oc rl ou tl, q)) rfl ?_
  refine RQ.iast (z := 2) (v := 0) (g1 := (HW sc (usc (usc (usc (usc ar 65 F0) 66 F1) 67 F2) 68 (usz M 2 0)) tx oc rl ou tl, q)) rfl rfl rfl rfl (by omega) (by decide) (HWa_68 (by funext j; unfold usc; cases hb : Nat.beq j 68 <;> first | rfl | (rw [Nat.eq_of_beq_eq_true hb]; rfl))) ?_
  refine RQ.seg 2 (pc' := 16) (L' := [some (.ref 63), some (.int (iI 2)), some (.int (iI 0))]) (st' := []) (g1 := (HW sc (usc (usc (usc (usc ar 65 F0) 66 F1) 67 F2) 68 (usz M 2 0)) tx oc rl ou tl, q)) rfl ?_
  by_cases hb : (2 : Int) < nb
  · refine x_lp2_l hF hX hb 99 0 (usz M 2 0) F2 (by omega) (usz_s _ _ _) (fun k k0 k1 => absurd k1 (by show ¬ k < 0; omega)) (fun M1 F1x q1 q2 q3 => ?_)
    exact x_lp2_e hF hX (pls_24 hF.1.2.1 (by omega)) q2 q3 ((plx_t hb).trans (pls_eq ..)) (fun M2 F2x e q4 q5 q6 => hk M2 F2x e (fun c hc => (q4 c hc).trans ((q1 c hc).trans (usz_n hc))) q5 q6)
  · skip
    refine RQ.seg 7 (pc' := 30) (L' := [some (.ref 63), some (.int (iI 2)), some (.int (iI 0))]) (st' := [.int (iI (sc 304)), .int (iI 2)]) (g1 := (HW sc (usc (usc (usc (usc ar 65 F0) 66 F1) 67 F2) 68 (usz M 2 0)) tx oc rl ou tl, q)) rfl ?_
    refine RQ.if2 (a := 2) (b := (sc 304)) rfl rfl rfl rfl (by omega) (by omega) (fun _ => ?_) (fun (q : ¬ sc 304 ≤ 2) => absurd (show sc 304 ≤ 2 from by omega) q)
    exact x_lp2_e hF hX (l := []) (by decide) (usz_s _ _ _) (fun k k0 k1 => absurd k1 (by show ¬ k < 0; omega)) (plx_f hb) (fun M2 F2x e q4 q5 q6 => hk M2 F2x e (fun c hc => (q4 c hc).trans (usz_n hc)) q5 q6)
theorem x_listPuts {K : PK} {d : Nat} {sc : Nat → Int} {ar : Nat → Int → Int} {tx oc : Nat} {rl : Nat → Option Nat} {ou : Nat → Int64} {tl : List PO} {q : Nat × Nat} {nw nb : Int} {W B : Int → Int → Int} (hF : FrOK nw nb W B) (hX : FrX (sc 303) (sc 304) (ar 5) (ar 6) (ar 7) (ar 8) (ar 10) (ar 11) (ar 12) nw nb W B) : CQ K (d + 3) 73 [.ref 63] (HW sc ar tx oc rl ou tl, q) (fun r g' => r = none ∧ ∃ sc' ar', g' = (HW sc' ar' tx oc rl ou tl, q) ∧ Same [6308] sc sc' ∧ Same [65, 66, 67, 68, 69] ar ar' ∧ RwT nw nb W B sc' ar') := by
  have hn := hF.1
  have hm1 := hX.1
  have hm2 := hX.2.1
  refine CQ.of (own := 6) (n := 3) (ini := false) (rt := none) (cd := cd73) (by decide +kernel) rfl (by decide +kernel) rfl (Nat.le_of_ble_eq_true rfl) ?_
  refine RQ.seg 2 (pc' := 2) (L' := [some (.ref 63), some (.int (iI 0)), none]) (st' := []) (g1 := (HW sc ar tx oc rl ou tl, q)) rfl ?_
  refine RQ.hp (g1 := (HW sc (usc ar 65 (ar 65)) tx oc rl ou tl, q)) (congrArg (fun a => (HW sc a tx oc rl ou tl, q)) (show ar = usc ar 65 (ar 65) by funext j; unfold usc; cases hb : Nat.beq j 65 <;> first | rfl | (rw [Nat.eq_of_beq_eq_true hb]; rfl))) ?_
  refine RQ.hp (g1 := (HW sc (usc (usc ar 65 (ar 65)) 66 (ar 66)) tx oc rl ou tl, q)) (congrArg (fun a => (HW sc a tx oc rl ou tl, q)) (show usc ar 65 (ar 65) = usc (usc ar 65 (ar 65)) 66 (ar 66) by funext j; unfold usc; cases hb : Nat.beq j 66 <;> first | rfl | (rw [Nat.eq_of_beq_eq_true hb]; rfl))) ?_
  refine RQ.hp (g1 := (HW sc (usc (usc (usc ar 65 (ar 65)) 66 (ar 66)) 67 (ar 67)) tx oc rl ou tl, q)) (congrArg (fun a => (HW sc a tx oc rl ou tl, q)) (show usc (usc ar 65 (ar 65)) 66 (ar 66) = usc (usc (usc ar 65 (ar 65)) 66 (ar 66)) 67 (ar 67) by funext j; unfold usc; cases hb : Nat.beq j 67 <;> first | rfl | (rw [Nat.eq_of_beq_eq_true hb]; rfl))) ?_
  refine RQ.hp (g1 := (HW sc (usc (usc (usc (usc ar 65 (ar 65)) 66 (ar 66)) 67 (ar 67)) 68 (ar 68)) tx oc rl ou tl, q)) (congrArg (fun a => (HW sc a tx oc rl ou tl, q)) (show usc (usc (usc ar 65 (ar 65)) 66 (ar 66)) 67 (ar 67) = usc (usc (usc (usc ar 65 (ar 65)) 66 (ar 66)) 67 (ar 67)) 68 (ar 68) by funext j; unfold usc; cases hb : Nat.beq j 68 <;> first | rfl | (rw [Nat.eq_of_beq_eq_true hb]; rfl))) ?_
  refine x_lp0 (sc := sc) (ar := ar) hF hX (fun M0 G0 e0 a1 a2 a3 => ?_)
  refine x_lp1 (sc := sc) (ar := ar) hF hX (fun M1 G1 e1 b1 b2 b3 => ?_)
  refine x_lp2 (sc := sc) (ar := ar) hF hX (fun M2 G2 e2 c1 c2 c3 => ?_)
  have hm0 : M2 0 = mny nw nb W B 0 := (c1 0 (by omega)).trans ((b1 0 (by omega)).trans a2)
  have hm1 : M2 1 = mny nw nb W B 1 := (c1 1 (by omega)).trans b2
  refine RQ.seg 15 (pc' := 137) (L' := [some (.ref 63), some (.int (iI 2)), e2]) (st' := [.int (iI 1), .int (iI 2), .ref 69]) (g1 := (HW (usc sc 6308 1) (usc (usc (usc (usc ar 65 G0) 66 G1) 67 G2) 68 M2) tx oc rl ou tl, q)) rfl ?_
  refine RQ.iast (z := 2) (v := 1) (g1 := (HW (usc sc 6308 1) (usc (usc (usc (usc (usc ar 65 G0) 66 G1) 67 G2) 68 M2) 69 (usz (ar 69) 2 1)) tx oc rl ou tl, q)) rfl rfl rfl rfl (by omega) (by decide) (HWa_69 rfl) ?_
  refine RQ.seg 6 (pc' := 148) (L' := [some (.ref 63), some (.int (iI 2)), e2]) (st' := [.int (iI 2), .ref 68, .int (iI 1), .ref 63]) (g1 := (HW (usc sc 6308 1) (usc (usc (usc (usc (usc ar 65 G0) 66 G1) 67 G2) 68 M2) 69 (usz (ar 69) 2 1)) tx oc rl ou tl, q)) rfl ?_
  refine RQ.ialdv (z := 2) (v := (mny nw nb W B 2)) rfl rfl rfl (by omega) (by decide) c2 ?_
  refine RQ.seg 1 (pc' := 150) (L' := [some (.ref 63), some (.int (iI 2)), e2]) (st' := [.int ((iI 1) * (iI (mny nw nb W B 2))), .ref 63]) (g1 := (HW (usc sc 6308 1) (usc (usc (usc (usc (usc ar 65 G0) 66 G1) 67 G2) 68 M2) 69 (usz (ar 69) 2 1)) tx oc rl ou tl, q)) rfl ?_
  refine RQ.to (L' := [some (.ref 63), some (.int (iI 2)), e2]) (st' := [.int (iI (1 * (mny nw nb W B 2))), .ref 63]) rfl (by simp only [iI_add, iI_sub, iI_mul, iI_neg]) ?_
  refine RQ.seg 10 (pc' := 137) (L' := [some (.ref 63), some (.int (iI 1)), e2]) (st' := [.int (iI (1 * (mny nw nb W B 2))), .int (iI 1), .ref 69]) (g1 := (HW (usc sc 6308 (1 * (mny nw nb W B 2))) (usc (usc (usc (usc (usc ar 65 G0) 66 G1) 67 G2) 68 M2) 69 (usz (ar 69) 2 1)) tx oc rl ou tl, q)) rfl ?_
  refine RQ.iast (z := 1) (v := (1 * (mny nw nb W B 2))) (g1 := (HW (usc sc 6308 (1 * (mny nw nb W B 2))) (usc (usc (usc (usc (usc ar 65 G0) 66 G1) 67 G2) 68 M2) 69 (usz (usz (ar 69) 2 1) 1 (1 * (mny nw nb W B 2)))) tx oc rl ou tl, q)) rfl rfl rfl rfl (by omega) (by decide) (HWa_69 (by funext j; unfold usc; cases hb : Nat.beq j 69 <;> first | rfl | (rw [Nat.eq_of_beq_eq_true hb]; rfl))) ?_
  refine RQ.seg 6 (pc' := 148) (L' := [some (.ref 63), some (.int (iI 1)), e2]) (st' := [.int (iI 1), .ref 68, .int (iI (1 * (mny nw nb W B 2))), .ref 63]) (g1 := (HW (usc sc 6308 (1 * (mny nw nb W B 2))) (usc (usc (usc (usc (usc ar 65 G0) 66 G1) 67 G2) 68 M2) 69 (usz (usz (ar 69) 2 1) 1 (1 * (mny nw nb W B 2)))) tx oc rl ou tl, q)) rfl ?_
  refine RQ.ialdv (z := 1) (v := (mny nw nb W B 1)) rfl rfl rfl (by omega) (by decide) hm1 ?_
  refine RQ.seg 1 (pc' := 150) (L' := [some (.ref 63), some (.int (iI 1)), e2]) (st' := [.int ((iI (1 * (mny nw nb W B 2))) * (iI (mny nw nb W B 1))), .ref 63]) (g1 := (HW (usc sc 6308 (1 * (mny nw nb W B 2))) (usc (usc (usc (usc (usc ar 65 G0) 66 G1) 67 G2) 68 M2) 69 (usz (usz (ar 69) 2 1) 1 (1 * (mny nw nb W B 2)))) tx oc rl ou tl, q)) rfl ?_
  refine RQ.to (L' := [some (.ref 63), some (.int (iI 1)), e2]) (st' := [.int (iI ((1 * (mny nw nb W B 2)) * (mny nw nb W B 1))), .ref 63]) rfl (by simp only [iI_add, iI_sub, iI_mul, iI_neg]) ?_
  refine RQ.seg 10 (pc' := 137) (L' := [some (.ref 63), some (.int (iI 0)), e2]) (st' := [.int (iI ((1 * (mny nw nb W B 2)) * (mny nw nb W B 1))), .int (iI 0), .ref 69]) (g1 := (HW (usc sc 6308 ((1 * (mny nw nb W B 2)) * (mny nw nb W B 1))) (usc (usc (usc (usc (usc ar 65 G0) 66 G1) 67 G2) 68 M2) 69 (usz (usz (ar 69) 2 1) 1 (1 * (mny nw nb W B 2)))) tx oc rl ou tl, q)) rfl ?_
  refine RQ.iast (z := 0) (v := ((1 * (mny nw nb W B 2)) * (mny nw nb W B 1))) (g1 := (HW (usc sc 6308 ((1 * (mny nw nb W B 2)) * (mny nw nb W B 1))) (usc (usc (usc (usc (usc ar 65 G0) 66 G1) 67 G2) 68 M2) 69 (usz (usz (usz (ar 69) 2 1) 1 (1 * (mny nw nb W B 2))) 0 ((1 * (mny nw nb W B 2)) * (mny nw nb W B 1)))) tx oc rl ou tl, q)) rfl rfl rfl rfl (by omega) (by decide) (HWa_69 (by funext j; unfold usc; cases hb : Nat.beq j 69 <;> first | rfl | (rw [Nat.eq_of_beq_eq_true hb]; rfl))) ?_
  refine RQ.seg 6 (pc' := 148) (L' := [some (.ref 63), some (.int (iI 0)), e2]) (st' := [.int (iI 0), .ref 68, .int (iI ((1 * (mny nw nb W B 2)) * (mny nw nb W B 1))), .ref 63]) (g1 := (HW (usc sc 6308 ((1 * (mny nw nb W B 2)) * (mny nw nb W B 1))) (usc (usc (usc (usc (usc ar 65 G0) 66 G1) 67 G2) 68 M2) 69 (usz (usz (usz (ar 69) 2 1) 1 (1 * (mny nw nb W B 2))) 0 ((1 * (mny nw nb W B 2)) * (mny nw nb W B 1)))) tx oc rl ou tl, q)) rfl ?_
  refine RQ.ialdv (z := 0) (v := (mny nw nb W B 0)) rfl rfl rfl (by omega) (by decide) hm0 ?_
  refine RQ.seg 1 (pc' := 150) (L' := [some (.ref 63), some (.int (iI 0)), e2]) (st' := [.int ((iI ((1 * (mny nw nb W B 2)) * (mny nw nb W B 1))) * (iI (mny nw nb W B 0))), .ref 63]) (g1 := (HW (usc sc 6308 ((1 * (mny nw nb W B 2)) * (mny nw nb W B 1))) (usc (usc (usc (usc (usc ar 65 G0) 66 G1) 67 G2) 68 M2) 69 (usz (usz (usz (ar 69) 2 1) 1 (1 * (mny nw nb W B 2))) 0 ((1 * (mny nw nb W B 2)) * (mny nw nb W B 1)))) tx oc rl ou tl, q)) rfl ?_
  refine RQ.to (L' := [some (.ref 63), some (.int (iI 0)), e2]) (st' := [.int (iI (((1 * (mny nw nb W B 2)) * (mny nw nb W B 1)) * (mny nw nb W B 0))), .ref 63]) rfl (by simp only [iI_add, iI_sub, iI_mul, iI_neg]) ?_
  refine RQ.seg 5 (pc' := 159) (L' := [some (.ref 63), some (.int (iI (-1))), e2]) (st' := []) (g1 := (HW (usc sc 6308 (((1 * (mny nw nb W B 2)) * (mny nw nb W B 1)) * (mny nw nb W B 0))) (usc (usc (usc (usc (usc ar 65 G0) 66 G1) 67 G2) 68 M2) 69 (usz (usz (usz (ar 69) 2 1) 1 (1 * (mny nw nb W B 2))) 0 ((1 * (mny nw nb W B 2)) * (mny nw nb W B 1)))) tx oc rl ou tl, q)) rfl ?_
  refine RQ.ret rfl rfl ?_
  refine ⟨rfl, _, _, rfl, (by repeat (first | exact Same.rf | refine Same.us rfl ?_)), (by repeat (first | exact Same.rf | refine Same.us rfl ?_)), fun b b0 b1 => ?_, fun k => ⟨a3 k, b3 k, c3 k⟩, ?_⟩
  · rcases (show b = 0 ∨ b = 1 ∨ b = 2 by omega) with rfl | rfl | rfl
    · refine ⟨hm0, ?_⟩; show (usz (usz (usz (ar 69) 2 1) 1 (1 * mny nw nb W B 2)) 0 (1 * mny nw nb W B 2 * mny nw nb W B 1)) 0 = _; rw [usz_s, Int.one_mul, Int.mul_comm]; rfl
    · refine ⟨hm1, ?_⟩; show (usz (usz (usz (ar 69) 2 1) 1 (1 * mny nw nb W B 2)) 0 (1 * mny nw nb W B 2 * mny nw nb W B 1)) 1 = _; rw [usz_n (by omega), usz_s, Int.one_mul]; rfl
    · refine ⟨c2, ?_⟩; show (usz (usz (usz (ar 69) 2 1) 1 (1 * mny nw nb W B 2)) 0 (1 * mny nw nb W B 2 * mny nw nb W B 1)) 2 = _; rw [usz_n (by omega), usz_n (by omega), usz_s]; rfl
  · show 1 * mny nw nb W B 2 * mny nw nb W B 1 * mny nw nb W B 0 = _; unfold t3; rw [Int.one_mul, Int.mul_comm (mny nw nb W B 2), Int.mul_comm _ (mny nw nb W B 0), Int.mul_assoc]
theorem x_makeRoom {K : PK} {d : Nat} {sc : Nat → Int} {ar : Nat → Int → Int} {tx oc : Nat} {rl : Nat → Option Nat} {ou : Nat → Int64} {tl : List PO} {q : Nat × Nat} {nw nb : Int} {W B : Int → Int → Int} (hF : FrOK nw nb W B) (hX : FrX (sc 303) (sc 304) (ar 5) (ar 6) (ar 7) (ar 8) (ar 10) (ar 11) (ar 12) nw nb W B) (hnb : 0 < nb) {n : Nat} (hn5 : n ≤ 15625) (ho : OcS oc tl n) : CQ K (d + 1) 72 [.ref 63] (HW sc ar tx oc rl ou tl, q) (fun r g' => r = none ∧ ((nd nb ≤ n ∧ g' = (HW sc ar tx oc rl ou tl, q)) ∨ (n < nd nb ∧ g' = (HW sc ar tx (tl.length + 118) rl ou (tl ++ [.inl (0, nd nb, .inl (zA fun _ => 0))]), q.1 + 1, q.2 + nd nb)))) := by
  have hn := hF.1
  have hm1 := hX.1
  have hm2 := hX.2.1
  obtain ⟨fo, hof⟩ := ho.at sc ar tx rl ou
  refine CQ.of (own := 6) (n := 3) (ini := false) (rt := none) (cd := cd72) (by decide +kernel) rfl (by decide +kernel) rfl (Nat.le_of_ble_eq_true rfl) ?_
  refine RQ.seg 8 (pc' := 12) (L' := [some (.ref 63), some (.int (iI 1)), some (.int (iI 0))]) (st' := [.int (iI (sc 304)), .int (iI 0)]) (g1 := (HW sc ar tx oc rl ou tl, q)) rfl ?_
  refine RQ.if2 (a := 0) (b := (sc 304)) rfl rfl rfl rfl (by omega) (by omega) (fun (h1 : sc 304 ≤ 0) => ?_) (fun (h1 : ¬ sc 304 ≤ 0) => ?_)
  · skip
    refine RQ.seg 2 (pc' := 35) (L' := [some (.ref 63), some (.int (iI 1)), some (.int (iI 0))]) (st' := [.ref oc]) (g1 := (HW sc ar tx oc rl ou tl, q)) rfl ?_
    refine RQ.alen rfl hof ?_
    refine RQ.seg 1 (pc' := 37) (L' := [some (.ref 63), some (.int (iI 1)), some (.int (iI 0))]) (st' := [.int (iI 1), .int (iI (n : Int))]) (g1 := (HW sc ar tx oc rl ou tl, q)) rfl ?_
    refine RQ.if2 (a := (n : Int)) (b := 1) rfl rfl rfl rfl (by omega) (by omega) (fun (h2 : 1 ≤ (n : Int)) => ?_) (fun (h2 : ¬ 1 ≤ (n : Int)) => ?_)
    · skip
      refine RQ.ret rfl rfl ?_
      first | (exfalso; omega) | (have end_ : nd nb ≤ n := (by unfold nd; (repeat (first | rw [if_pos (by omega)] | rw [if_neg (by omega)])); omega); exact ⟨rfl, Or.inl ⟨end_, rfl⟩⟩)
    · skip
      refine RQ.seg 2 (pc' := 42) (L' := [some (.ref 63), some (.int (iI 1)), some (.int (iI 0))]) (st' := [.int (iI 1), .ref 63]) (g1 := (HW sc ar tx oc rl ou tl, q)) rfl ?_
      refine RQ.newai (n := 1) (r := tl.length + 118) (g1 := (HW sc ar tx oc rl ou (tl ++ [.inl (0, 1, .inl (zA fun _ => 0))]), q.1 + 1, q.2 + 1)) rfl (by decide) rfl rfl ?_
      refine RQ.seg 1 (pc' := 47) (L' := [some (.ref 63), some (.int (iI 1)), some (.int (iI 0))]) (st' := []) (g1 := (HW sc ar tx (tl.length + 118) rl ou (tl ++ [.inl (0, 1, .inl (zA fun _ => 0))]), q.1 + 1, q.2 + 1)) rfl ?_
      refine RQ.ret rfl rfl ?_
      first | (exfalso; omega) | (have end_ : nd nb = 1 := (by unfold nd; (repeat (first | rw [if_pos (by omega)] | rw [if_neg (by omega)]))); rw [end_]; exact ⟨rfl, Or.inr ⟨by omega, rfl⟩⟩)
  · skip
    refine RQ.seg 13 (pc' := 12) (L' := [some (.ref 63), some (.int (iI 25)), some (.int (iI 1))]) (st' := [.int (iI (sc 304)), .int (iI 1)]) (g1 := (HW sc ar tx oc rl ou tl, q)) rfl ?_
    refine RQ.if2 (a := 1) (b := (sc 304)) rfl rfl rfl rfl (by omega) (by omega) (fun (h3 : sc 304 ≤ 1) => ?_) (fun (h3 : ¬ sc 304 ≤ 1) => ?_)
    · skip
      refine RQ.seg 2 (pc' := 35) (L' := [some (.ref 63), some (.int (iI 25)), some (.int (iI 1))]) (st' := [.ref oc]) (g1 := (HW sc ar tx oc rl ou tl, q)) rfl ?_
      refine RQ.alen rfl hof ?_
      refine RQ.seg 1 (pc' := 37) (L' := [some (.ref 63), some (.int (iI 25)), some (.int (iI 1))]) (st' := [.int (iI 25), .int (iI (n : Int))]) (g1 := (HW sc ar tx oc rl ou tl, q)) rfl ?_
      refine RQ.if2 (a := (n : Int)) (b := 25) rfl rfl rfl rfl (by omega) (by omega) (fun (h4 : 25 ≤ (n : Int)) => ?_) (fun (h4 : ¬ 25 ≤ (n : Int)) => ?_)
      · skip
        refine RQ.ret rfl rfl ?_
        first | (exfalso; omega) | (have end_ : nd nb ≤ n := (by unfold nd; (repeat (first | rw [if_pos (by omega)] | rw [if_neg (by omega)])); omega); exact ⟨rfl, Or.inl ⟨end_, rfl⟩⟩)
      · skip
        refine RQ.seg 2 (pc' := 42) (L' := [some (.ref 63), some (.int (iI 25)), some (.int (iI 1))]) (st' := [.int (iI 25), .ref 63]) (g1 := (HW sc ar tx oc rl ou tl, q)) rfl ?_
        refine RQ.newai (n := 25) (r := tl.length + 118) (g1 := (HW sc ar tx oc rl ou (tl ++ [.inl (0, 25, .inl (zA fun _ => 0))]), q.1 + 1, q.2 + 25)) rfl (by decide) rfl rfl ?_
        refine RQ.seg 1 (pc' := 47) (L' := [some (.ref 63), some (.int (iI 25)), some (.int (iI 1))]) (st' := []) (g1 := (HW sc ar tx (tl.length + 118) rl ou (tl ++ [.inl (0, 25, .inl (zA fun _ => 0))]), q.1 + 1, q.2 + 25)) rfl ?_
        refine RQ.ret rfl rfl ?_
        first | (exfalso; omega) | (have end_ : nd nb = 25 := (by unfold nd; (repeat (first | rw [if_pos (by omega)] | rw [if_neg (by omega)]))); rw [end_]; exact ⟨rfl, Or.inr ⟨by omega, rfl⟩⟩)
    · skip
      refine RQ.seg 13 (pc' := 12) (L' := [some (.ref 63), some (.int (iI 625)), some (.int (iI 2))]) (st' := [.int (iI (sc 304)), .int (iI 2)]) (g1 := (HW sc ar tx oc rl ou tl, q)) rfl ?_
      refine RQ.if2 (a := 2) (b := (sc 304)) rfl rfl rfl rfl (by omega) (by omega) (fun (h5 : sc 304 ≤ 2) => ?_) (fun (h5 : ¬ sc 304 ≤ 2) => ?_)
      · skip
        refine RQ.seg 2 (pc' := 35) (L' := [some (.ref 63), some (.int (iI 625)), some (.int (iI 2))]) (st' := [.ref oc]) (g1 := (HW sc ar tx oc rl ou tl, q)) rfl ?_
        refine RQ.alen rfl hof ?_
        refine RQ.seg 1 (pc' := 37) (L' := [some (.ref 63), some (.int (iI 625)), some (.int (iI 2))]) (st' := [.int (iI 625), .int (iI (n : Int))]) (g1 := (HW sc ar tx oc rl ou tl, q)) rfl ?_
        refine RQ.if2 (a := (n : Int)) (b := 625) rfl rfl rfl rfl (by omega) (by omega) (fun (h6 : 625 ≤ (n : Int)) => ?_) (fun (h6 : ¬ 625 ≤ (n : Int)) => ?_)
        · skip
          refine RQ.ret rfl rfl ?_
          first | (exfalso; omega) | (have end_ : nd nb ≤ n := (by unfold nd; (repeat (first | rw [if_pos (by omega)] | rw [if_neg (by omega)])); omega); exact ⟨rfl, Or.inl ⟨end_, rfl⟩⟩)
        · skip
          refine RQ.seg 2 (pc' := 42) (L' := [some (.ref 63), some (.int (iI 625)), some (.int (iI 2))]) (st' := [.int (iI 625), .ref 63]) (g1 := (HW sc ar tx oc rl ou tl, q)) rfl ?_
          refine RQ.newai (n := 625) (r := tl.length + 118) (g1 := (HW sc ar tx oc rl ou (tl ++ [.inl (0, 625, .inl (zA fun _ => 0))]), q.1 + 1, q.2 + 625)) rfl (by decide) rfl rfl ?_
          refine RQ.seg 1 (pc' := 47) (L' := [some (.ref 63), some (.int (iI 625)), some (.int (iI 2))]) (st' := []) (g1 := (HW sc ar tx (tl.length + 118) rl ou (tl ++ [.inl (0, 625, .inl (zA fun _ => 0))]), q.1 + 1, q.2 + 625)) rfl ?_
          refine RQ.ret rfl rfl ?_
          first | (exfalso; omega) | (have end_ : nd nb = 625 := (by unfold nd; (repeat (first | rw [if_pos (by omega)] | rw [if_neg (by omega)]))); rw [end_]; exact ⟨rfl, Or.inr ⟨by omega, rfl⟩⟩)
      · skip
        refine RQ.seg 13 (pc' := 12) (L' := [some (.ref 63), some (.int (iI 15625)), some (.int (iI 3))]) (st' := [.int (iI (sc 304)), .int (iI 3)]) (g1 := (HW sc ar tx oc rl ou tl, q)) rfl ?_
        refine RQ.if2 (a := 3) (b := (sc 304)) rfl rfl rfl rfl (by omega) (by omega) (fun (h7 : sc 304 ≤ 3) => ?_) (fun (h7 : ¬ sc 304 ≤ 3) => ?_)
        · skip
          refine RQ.seg 2 (pc' := 35) (L' := [some (.ref 63), some (.int (iI 15625)), some (.int (iI 3))]) (st' := [.ref oc]) (g1 := (HW sc ar tx oc rl ou tl, q)) rfl ?_
          refine RQ.alen rfl hof ?_
          refine RQ.seg 1 (pc' := 37) (L' := [some (.ref 63), some (.int (iI 15625)), some (.int (iI 3))]) (st' := [.int (iI 15625), .int (iI (n : Int))]) (g1 := (HW sc ar tx oc rl ou tl, q)) rfl ?_
          refine RQ.if2 (a := (n : Int)) (b := 15625) rfl rfl rfl rfl (by omega) (by omega) (fun (h8 : 15625 ≤ (n : Int)) => ?_) (fun (h8 : ¬ 15625 ≤ (n : Int)) => ?_)
          · skip
            refine RQ.ret rfl rfl ?_
            first | (exfalso; omega) | (have end_ : nd nb ≤ n := (by unfold nd; (repeat (first | rw [if_pos (by omega)] | rw [if_neg (by omega)])); omega); exact ⟨rfl, Or.inl ⟨end_, rfl⟩⟩)
          · skip
            refine RQ.seg 2 (pc' := 42) (L' := [some (.ref 63), some (.int (iI 15625)), some (.int (iI 3))]) (st' := [.int (iI 15625), .ref 63]) (g1 := (HW sc ar tx oc rl ou tl, q)) rfl ?_
            refine RQ.newai (n := 15625) (r := tl.length + 118) (g1 := (HW sc ar tx oc rl ou (tl ++ [.inl (0, 15625, .inl (zA fun _ => 0))]), q.1 + 1, q.2 + 15625)) rfl (by decide) rfl rfl ?_
            refine RQ.seg 1 (pc' := 47) (L' := [some (.ref 63), some (.int (iI 15625)), some (.int (iI 3))]) (st' := []) (g1 := (HW sc ar tx (tl.length + 118) rl ou (tl ++ [.inl (0, 15625, .inl (zA fun _ => 0))]), q.1 + 1, q.2 + 15625)) rfl ?_
            refine RQ.ret rfl rfl ?_
            first | (exfalso; omega) | (have end_ : nd nb = 15625 := (by unfold nd; (repeat (first | rw [if_pos (by omega)] | rw [if_neg (by omega)]))); rw [end_]; exact ⟨rfl, Or.inr ⟨by omega, rfl⟩⟩)
        · skip
          refine RQ.seg 5 (pc' := 35) (L' := [some (.ref 63), some (.int (iI 15625)), some (.int (iI 3))]) (st' := [.ref oc]) (g1 := (HW sc ar tx oc rl ou tl, q)) rfl ?_
          refine RQ.alen rfl hof ?_
          refine RQ.seg 1 (pc' := 37) (L' := [some (.ref 63), some (.int (iI 15625)), some (.int (iI 3))]) (st' := [.int (iI 15625), .int (iI (n : Int))]) (g1 := (HW sc ar tx oc rl ou tl, q)) rfl ?_
          refine RQ.if2 (a := (n : Int)) (b := 15625) rfl rfl rfl rfl (by omega) (by omega) (fun (h9 : 15625 ≤ (n : Int)) => ?_) (fun (h9 : ¬ 15625 ≤ (n : Int)) => ?_)
          · skip
            refine RQ.ret rfl rfl ?_
            first | (exfalso; omega) | (have end_ : nd nb ≤ n := (by unfold nd; (repeat (first | rw [if_pos (by omega)] | rw [if_neg (by omega)])); omega); exact ⟨rfl, Or.inl ⟨end_, rfl⟩⟩)
          · skip
            refine RQ.seg 2 (pc' := 42) (L' := [some (.ref 63), some (.int (iI 15625)), some (.int (iI 3))]) (st' := [.int (iI 15625), .ref 63]) (g1 := (HW sc ar tx oc rl ou tl, q)) rfl ?_
            refine RQ.newai (n := 15625) (r := tl.length + 118) (g1 := (HW sc ar tx oc rl ou (tl ++ [.inl (0, 15625, .inl (zA fun _ => 0))]), q.1 + 1, q.2 + 15625)) rfl (by decide) rfl rfl ?_
            refine RQ.seg 1 (pc' := 47) (L' := [some (.ref 63), some (.int (iI 15625)), some (.int (iI 3))]) (st' := []) (g1 := (HW sc ar tx (tl.length + 118) rl ou (tl ++ [.inl (0, 15625, .inl (zA fun _ => 0))]), q.1 + 1, q.2 + 15625)) rfl ?_
            refine RQ.ret rfl rfl ?_
            first | (exfalso; omega) | (have end_ : nd nb = 15625 := (by unfold nd; (repeat (first | rw [if_pos (by omega)] | rw [if_neg (by omega)]))); rw [end_]; exact ⟨rfl, Or.inr ⟨by omega, rfl⟩⟩)
