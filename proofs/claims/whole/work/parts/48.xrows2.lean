/-! rows of the class, by wip/tools -/
/-! rows of the class: reading and marking -/
def rnm (P : Int → Int) : Nat → Int
  | 0 => 0
  | n + 1 => rnm P n * 100 + P n
def pik (r num : Int → Int) (i : Int) : Nat → Int → Int → Int
  | 0, _, s => if i = -1 then s else -1
  | m + 1, k, s => if r k = 1 then (if s = i then num k else pik r num i m (k + 1) (s + 1)) else pik r num i m (k + 1) s
theorem pik_lo {r num : Int → Int} {i : Int} (hi : i < -1) : ∀ (m : Nat) (k s : Int), 0 ≤ s → pik r num i m k s = -1
  | 0, _, _, _ => by rw [pik, if_neg (by omega)]
  | m + 1, k, s, h => by
    rw [pik]
    split
    · rw [if_neg (by omega)]; exact pik_lo hi m _ _ (by omega)
    · exact pik_lo hi m _ _ h
theorem pik_c {r r' num num' : Int → Int} {i T : Int} (hr : ∀ k, 0 ≤ k → k < T → r k = r' k) (hn : ∀ k, 0 ≤ k → k < T → num k = num' k) : ∀ (m : Nat) (k s : Int), 0 ≤ k → k + m = T → pik r num i m k s = pik r' num' i m k s
  | 0, _, _, _, _ => rfl
  | m + 1, k, s, h0, h1 => by
    rw [pik, pik, hr k h0 (by omega), hn k h0 (by omega), pik_c hr hn m (k + 1) (s + 1) (by omega) (by omega), pik_c hr hn m (k + 1) s (by omega) (by omega)]
theorem mk01_0 : Mk01 (fun _ => 0) := fun _ => ⟨Int.le_refl 0, show (0 : Int) ≤ 1 by decide⟩
theorem mko_0 {nw nb : Int} {W B : Int → Int → Int} (i : Int) : mko nw nb W B (fun _ => 0) (fun _ => 0) i = oci nw nb W B i := by
  show oci nw nb W B i + 0 * 16777216 + 0 * 33554432 = _
  omega
theorem als_oci {nw nb : Int} {W B : Int → Int → Int} (hF : FrOK nw nb W B) (i : Int) : als (oci nw nb W B i) = rsv nw nb W B i := by
  have h := mko_als hF (r := fun _ => 0) (e := fun _ => 0) mk01_0 mk01_0 i
  rw [mko_0] at h
  exact h
theorem us3_at {g P : Int → Int} {b : Int} (hb : 0 ≤ b ∧ b < 3) : usz (usz (usz g 0 (P 0)) 1 (P 1)) 2 (P 2) b = P b := by
  rcases (show b = 0 ∨ b = 1 ∨ b = 2 by omega) with rfl | rfl | rfl
  · rw [usz_n (by omega), usz_n (by omega), usz_s]
  · rw [usz_n (by omega), usz_s]
  · rw [usz_s]
theorem foc_up {nw nb : Int} {W B : Int → Int → Int} {f : Int → Int} {k i : Int} (h : ∀ i, 0 ≤ i → i < k → f i = oci nw nb W B i) (hi : 0 ≤ i ∧ i ≤ k) : usz f k (oci nw nb W B k) i = oci nw nb W B i := by
  by_cases e : i = k
  · subst e; exact usz_s _ _ _
  · rw [usz_n e]; exact h i hi.1 (by omega)
theorem mk01_up {r : Int → Int} (h : Mk01 r) (i : Int) {v : Int} (hv : 0 ≤ v ∧ v ≤ 1) : Mk01 (usz r i v) := by
  intro k
  by_cases e : k = i
  · subst e; rw [usz_s]; exact hv
  · rw [usz_n e]; exact h k
theorem RwK.mr {nw nb : Int} {W B : Int → Int → Int} {r e : Int → Int} {n : Nat} {f : Int → Int} {sc : Nat → Int} {ar : Nat → Int → Int} (h : RwK nw nb W B r e n f sc ar) (i : Int) {v : Int} (hv : 0 ≤ v ∧ v ≤ 1) : RwK nw nb W B (usz r i v) e n (usz f i (pkm (oci nw nb W B i) v (e i))) sc ar := by
  obtain ⟨h1, h2, h3, h4, ⟨h5, h6⟩, h7⟩ := h
  refine ⟨h1, h2, h3, h4, ⟨mk01_up h5 i hv, h6⟩, fun k k0 k1 => ?_⟩
  by_cases e1 : k = i
  · subst e1; rw [usz_s]; unfold mko; rw [usz_s]
  · rw [usz_n e1, h7 k k0 k1]; unfold mko; rw [usz_n e1]
theorem RwK.me {nw nb : Int} {W B : Int → Int → Int} {r e : Int → Int} {n : Nat} {f : Int → Int} {sc : Nat → Int} {ar : Nat → Int → Int} (h : RwK nw nb W B r e n f sc ar) (i : Int) {v : Int} (hv : 0 ≤ v ∧ v ≤ 1) : RwK nw nb W B r (usz e i v) n (usz f i (pkm (oci nw nb W B i) (r i) v)) sc ar := by
  obtain ⟨h1, h2, h3, h4, ⟨h5, h6⟩, h7⟩ := h
  refine ⟨h1, h2, h3, h4, ⟨h5, mk01_up h6 i hv⟩, fun k k0 k1 => ?_⟩
  by_cases e1 : k = i
  · subst e1; rw [usz_s]; unfold mko; rw [usz_s]
  · rw [usz_n e1, h7 k k0 k1]; unfold mko; rw [usz_n e1]
theorem RwK.sm {nw nb : Int} {W B : Int → Int → Int} {r e : Int → Int} {n : Nat} {f : Int → Int} {sc sc' : Nat → Int} {ar ar' : Nat → Int → Int} (hs : Same scF sc sc') (ha : Same scA ar ar') (h : RwK nw nb W B r e n f sc ar) : RwK nw nb W B r e n f sc' ar' := by
  obtain ⟨h1, h2, h3, h4⟩ := h
  exact ⟨(hs 6306 rfl).trans h1, h2.sm hs ha, (hs 6309 rfl).trans h3, h4⟩
def rkF : List Nat := scF ++ [6306, 6309]
def rnF : List Nat := scF ++ [6306, 6308, 6309]
def rnA : List Nat := scA ++ [65, 66, 67, 68, 69]
section RQXor
variable {K : PK} {d own : Nat} {ini : Bool} {rt : Option FieldType} {cd : PC} {pc : Nat} {L : PL} {st : List Value} {g : PG} {Q : Option Value → PG → Prop}
theorem RQ.ixorq {len : Nat} {v : Int} {x y : Int32} (hf : pfetch cd pc = some (.ixor, len)) (hq : x ^^^ y = iI v) (t : RQ K d own ini rt cd (pc + 1) L (.int (iI v) :: st) g Q) : RQ K d own ini rt cd pc L (.int y :: .int x :: st) g Q := by
  refine RQ.step hf (S := (pc + 1, L, .int (x ^^^ y) :: st, g)) rfl ?_
  rw [hq]
  exact t
end RQXor
theorem x_putIn {K : PK} {d : Nat} {sc : Nat → Int} {ar : Nat → Int → Int} {tx oc : Nat} {rl : Nat → Option Nat} {ou : Nat → Int64} {tl : List PO} {q : Nat × Nat} {i b : Int} {nw nb : Int} {W B : Int → Int → Int} (hF : FrOK nw nb W B) (hX : FrX (sc 303) (sc 304) (ar 5) (ar 6) (ar 7) (ar 8) (ar 10) (ar 11) (ar 12) nw nb W B) (hT : RwT nw nb W B sc ar) (hi : 0 ≤ i ∧ i < 2147483648) (hb : 0 ≤ b ∧ b < 3) : CallR K (d + 1) 74 [.ref 63, .int (iI i), .int (iI b)] (HW sc ar tx oc rl ou tl, q) (some (.int (iI (PI nw nb W B i b)))) (HW sc ar tx oc rl ou tl, q) := by
  apply CQ.x
  have hB := mny_b (nw := nw) (nb := nb) (W := W) (B := B) hF.1.2.1
  have hs := s3_r hB b
  have hm := hB b hb.1 hb.2
  have hsm := sm3_r hB hb
  have hq0 : 0 ≤ i / s3 (mny nw nb W B) b := Int.ediv_nonneg hi.1 (by omega)
  have hq1 : i / s3 (mny nw nb W B) b ≤ i := Int.ediv_le_self _ hi.1
  have hx : 0 ≤ i / s3 (mny nw nb W B) b % mny nw nb W B b ∧ i / s3 (mny nw nb W B) b % mny nw nb W B b < mny nw nb W B b := x3_r hB hb
  refine CQ.of (own := 6) (n := 3) (ini := false) (rt := (some .int)) (cd := cd74) (by decide +kernel) rfl (by decide +kernel) rfl (Nat.le_of_ble_eq_true rfl) ?_
  refine RQ.seg 3 (pc' := 5) (L' := [some (.ref 63), some (.int (iI i)), some (.int (iI b))]) (st' := [.int (iI b), .ref 69]) (g1 := (HW sc ar tx oc rl ou tl, q)) rfl ?_
  refine RQ.ialdv (z := b) (v := (s3 (mny nw nb W B) b)) rfl rfl rfl (by omega) (by decide) (hT.1 b (by omega) (by omega)).2 ?_
  refine RQ.if1 (a := (s3 (mny nw nb W B) b)) rfl rfl rfl (by omega) (fun (q : s3 (mny nw nb W B) b ≤ 0) => absurd q (show ¬ s3 (mny nw nb W B) b ≤ 0 from by omega)) (fun _ => ?_)
  refine RQ.seg 3 (pc' := 14) (L' := [some (.ref 63), some (.int (iI i)), some (.int (iI b))]) (st' := [.int (iI b), .ref 68]) (g1 := (HW sc ar tx oc rl ou tl, q)) rfl ?_
  refine RQ.ialdv (z := b) (v := (mny nw nb W B b)) rfl rfl rfl (by omega) (by decide) (hT.1 b (by omega) (by omega)).1 ?_
  refine RQ.if1 (a := (mny nw nb W B b)) rfl rfl rfl (by omega) (fun _ => ?_) (fun (q : ¬ 0 < mny nw nb W B b) => absurd (show 0 < mny nw nb W B b from by omega) q)
  refine RQ.seg 3 (pc' := 26) (L' := [some (.ref 63), some (.int (iI i)), some (.int (iI b))]) (st' := [.int (iI b), .ref 64]) (g1 := (HW sc ar tx oc rl ou tl, q)) rfl ?_
  refine RQ.aald (z := b) rfl rfl rfl (by omega) (by decide) ?_
  refine RQ.seg 4 (pc' := 33) (L' := [some (.ref 63), some (.int (iI i)), some (.int (iI b))]) (st' := [.int (iI b), .ref 69, .int (iI i), .ref (65 + b.toNat)]) (g1 := (HW sc ar tx oc rl ou tl, q)) rfl ?_
  refine RQ.ialdv (z := b) (v := (s3 (mny nw nb W B) b)) rfl rfl rfl (by omega) (by decide) (hT.1 b (by omega) (by omega)).2 ?_
  refine RQ.idiv (a := i) (b := (s3 (mny nw nb W B) b)) rfl rfl rfl (by omega) (by omega) ?_
  refine RQ.seg 3 (pc' := 40) (L' := [some (.ref 63), some (.int (iI i)), some (.int (iI b))]) (st' := [.int (iI b), .ref 68, .int (iI (i / (s3 (mny nw nb W B) b))), .ref (65 + b.toNat)]) (g1 := (HW sc ar tx oc rl ou tl, q)) rfl ?_
  refine RQ.ialdv (z := b) (v := (mny nw nb W B b)) rfl rfl rfl (by omega) (by decide) (hT.1 b (by omega) (by omega)).1 ?_
  refine RQ.irem (a := (i / (s3 (mny nw nb W B) b))) (b := (mny nw nb W B b)) rfl rfl rfl (by omega) (by omega) ?_
  refine RQ.ialdv (z := ((i / (s3 (mny nw nb W B) b)) % (mny nw nb W B b))) (v := (PI nw nb W B i b)) rfl rfl (HW_r64 (by omega)) (by omega) (by decide) (hT.row hb hx) ?_
  refine RQ.ret rfl rfl ?_
  exact ⟨rfl, rfl⟩
theorem x_oth {K : PK} {d : Nat} {sc : Nat → Int} {ar : Nat → Int → Int} {tx oc : Nat} {rl : Nat → Option Nat} {ou : Nat → Int64} {tl : List PO} {q : Nat × Nat} {i b : Int} {nw nb : Int} {W B : Int → Int → Int} (hF : FrOK nw nb W B) (hX : FrX (sc 303) (sc 304) (ar 5) (ar 6) (ar 7) (ar 8) (ar 10) (ar 11) (ar 12) nw nb W B) (hT : RwT nw nb W B sc ar) (hi : 0 ≤ i ∧ i < 2147483648) (hb : 0 ≤ b ∧ b < 3) : CallR K (d + 1) 75 [.ref 63, .int (iI i), .int (iI b)] (HW sc ar tx oc rl ou tl, q) (some (.int (iI (o3 (mny nw nb W B) i b)))) (HW sc ar tx oc rl ou tl, q) := by
  apply CQ.x
  have hB := mny_b (nw := nw) (nb := nb) (W := W) (B := B) hF.1.2.1
  have hs := s3_r hB b
  have hm := hB b hb.1 hb.2
  have hsm := sm3_r hB hb
  have hq0 : 0 ≤ i / s3 (mny nw nb W B) b := Int.ediv_nonneg hi.1 (by omega)
  have hq1 : i / s3 (mny nw nb W B) b ≤ i := Int.ediv_le_self _ hi.1
  have hx : 0 ≤ i / s3 (mny nw nb W B) b % mny nw nb W B b ∧ i / s3 (mny nw nb W B) b % mny nw nb W B b < mny nw nb W B b := x3_r hB hb
  refine CQ.of (own := 6) (n := 3) (ini := false) (rt := (some .int)) (cd := cd75) (by decide +kernel) rfl (by decide +kernel) rfl (Nat.le_of_ble_eq_true rfl) ?_
  refine RQ.seg 3 (pc' := 5) (L' := [some (.ref 63), some (.int (iI i)), some (.int (iI b))]) (st' := [.int (iI b), .ref 69]) (g1 := (HW sc ar tx oc rl ou tl, q)) rfl ?_
  refine RQ.ialdv (z := b) (v := (s3 (mny nw nb W B) b)) rfl rfl rfl (by omega) (by decide) (hT.1 b (by omega) (by omega)).2 ?_
  refine RQ.if1 (a := (s3 (mny nw nb W B) b)) rfl rfl rfl (by omega) (fun (q : s3 (mny nw nb W B) b ≤ 0) => absurd q (show ¬ s3 (mny nw nb W B) b ≤ 0 from by omega)) (fun _ => ?_)
  refine RQ.seg 3 (pc' := 14) (L' := [some (.ref 63), some (.int (iI i)), some (.int (iI b))]) (st' := [.int (iI b), .ref 68]) (g1 := (HW sc ar tx oc rl ou tl, q)) rfl ?_
  refine RQ.ialdv (z := b) (v := (mny nw nb W B b)) rfl rfl rfl (by omega) (by decide) (hT.1 b (by omega) (by omega)).1 ?_
  refine RQ.if1 (a := (mny nw nb W B b)) rfl rfl rfl (by omega) (fun _ => ?_) (fun (q : ¬ 0 < mny nw nb W B b) => absurd (show 0 < mny nw nb W B b from by omega) q)
  refine RQ.seg 4 (pc' := 26) (L' := [some (.ref 63), some (.int (iI i)), some (.int (iI b))]) (st' := [.int (iI b), .ref 69, .int (iI i)]) (g1 := (HW sc ar tx oc rl ou tl, q)) rfl ?_
  refine RQ.ialdv (z := b) (v := (s3 (mny nw nb W B) b)) rfl rfl rfl (by omega) (by decide) (hT.1 b (by omega) (by omega)).2 ?_
  refine RQ.seg 3 (pc' := 32) (L' := [some (.ref 63), some (.int (iI i)), some (.int (iI b))]) (st' := [.int (iI b), .ref 68, .int (iI (s3 (mny nw nb W B) b)), .int (iI i)]) (g1 := (HW sc ar tx oc rl ou tl, q)) rfl ?_
  refine RQ.ialdv (z := b) (v := (mny nw nb W B b)) rfl rfl rfl (by omega) (by decide) (hT.1 b (by omega) (by omega)).1 ?_
  refine RQ.seg 1 (pc' := 34) (L' := [some (.ref 63), some (.int (iI i)), some (.int (iI b))]) (st' := [.int ((iI (s3 (mny nw nb W B) b)) * (iI (mny nw nb W B b))), .int (iI i)]) (g1 := (HW sc ar tx oc rl ou tl, q)) rfl ?_
  refine RQ.idiv (a := i) (b := ((s3 (mny nw nb W B) b) * (mny nw nb W B b))) rfl rfl (by simp only [iI_add, iI_sub, iI_mul, iI_neg]) (by omega) (by omega) ?_
  refine RQ.seg 3 (pc' := 40) (L' := [some (.ref 63), some (.int (iI i)), some (.int (iI b))]) (st' := [.int (iI b), .ref 69, .int (iI (i / ((s3 (mny nw nb W B) b) * (mny nw nb W B b))))]) (g1 := (HW sc ar tx oc rl ou tl, q)) rfl ?_
  refine RQ.ialdv (z := b) (v := (s3 (mny nw nb W B) b)) rfl rfl rfl (by omega) (by decide) (hT.1 b (by omega) (by omega)).2 ?_
  refine RQ.seg 5 (pc' := 48) (L' := [some (.ref 63), some (.int (iI i)), some (.int (iI b))]) (st' := [.int (iI b), .ref 69, .int (iI i), .int ((iI (i / ((s3 (mny nw nb W B) b) * (mny nw nb W B b)))) * (iI (s3 (mny nw nb W B) b)))]) (g1 := (HW sc ar tx oc rl ou tl, q)) rfl ?_
  refine RQ.ialdv (z := b) (v := (s3 (mny nw nb W B) b)) rfl rfl rfl (by omega) (by decide) (hT.1 b (by omega) (by omega)).2 ?_
  refine RQ.irem (a := i) (b := (s3 (mny nw nb W B) b)) rfl rfl rfl (by omega) (by omega) ?_
  refine RQ.seg 1 (pc' := 51) (L' := [some (.ref 63), some (.int (iI i)), some (.int (iI b))]) (st' := [.int (((iI (i / ((s3 (mny nw nb W B) b) * (mny nw nb W B b)))) * (iI (s3 (mny nw nb W B) b))) + (iI (i % (s3 (mny nw nb W B) b))))]) (g1 := (HW sc ar tx oc rl ou tl, q)) rfl ?_
  refine RQ.to (L' := [some (.ref 63), some (.int (iI i)), some (.int (iI b))]) (st' := [.int (iI ((i / ((s3 (mny nw nb W B) b) * (mny nw nb W B b))) * (s3 (mny nw nb W B) b) + (i % (s3 (mny nw nb W B) b))))]) rfl (by simp only [iI_add, iI_sub, iI_mul, iI_neg]) ?_
  refine RQ.ret rfl rfl ?_
  exact ⟨rfl, rfl⟩
theorem x_ra_l {K : PK} {d : Nat} {sc : Nat → Int} {ar : Nat → Int → Int} {tx oc : Nat} {rl : Nat → Option Nat} {ou : Nat → Int64} {tl : List PO} {q : Nat × Nat} {Q : Option Value → PG → Prop} {i : Int} {nw nb : Int} {W B : Int → Int → Int} (hF : FrOK nw nb W B) (hX : FrX (sc 303) (sc 304) (ar 5) (ar 6) (ar 7) (ar 8) (ar 10) (ar 11) (ar 12) nw nb W B) (hT : RwT nw nb W B sc ar) (hi : 0 ≤ i ∧ i < 2147483648) (hk : Q (some (.int (iI (rnm (PI nw nb W B i) nb.toNat)))) (HW sc ar tx oc rl ou tl, q)) : ∀ (m b : Nat) (hm : (b : Int) + m = nb), RQ K (d + 1) 6 false (some .int) cd76 4 [some (.ref 63), some (.int (iI i)), some (.int (iI (rnm (PI nw nb W B i) b))), some (.int (iI (b : Int)))] [] (HW sc ar tx oc rl ou tl, q) Q
  | 0, b, hm => by
    have hn := hF.1
    have hm1 := hX.1
    have hm2 := hX.2.1
    refine RQ.seg 4 (pc' := 12) (L' := [some (.ref 63), some (.int (iI i)), some (.int (iI (rnm (PI nw nb W B i) b))), some (.int (iI (b : Int)))]) (st' := [.int (iI (sc 304)), .int (iI (b : Int))]) (g1 := (HW sc ar tx oc rl ou tl, q)) rfl ?_
    refine RQ.if2 (a := (b : Int)) (b := (sc 304)) rfl rfl rfl rfl (by omega) (by omega) (fun _ => ?_) (fun (q : ¬ sc 304 ≤ (b : Int)) => absurd (show sc 304 ≤ (b : Int) from by omega) q)
    refine RQ.seg 1 (pc' := 34) (L' := [some (.ref 63), some (.int (iI i)), some (.int (iI (rnm (PI nw nb W B i) b))), some (.int (iI (b : Int)))]) (st' := [.int (iI (rnm (PI nw nb W B i) b))]) (g1 := (HW sc ar tx oc rl ou tl, q)) rfl ?_
    refine RQ.ret rfl rfl ?_
    obtain rfl : nb = (b : Int) := by omega
    exact hk
  | m + 1, b, hm => by
    have hn := hF.1
    have hm1 := hX.1
    have hm2 := hX.2.1
    refine RQ.seg 4 (pc' := 12) (L' := [some (.ref 63), some (.int (iI i)), some (.int (iI (rnm (PI nw nb W B i) b))), some (.int (iI (b : Int)))]) (st' := [.int (iI (sc 304)), .int (iI (b : Int))]) (g1 := (HW sc ar tx oc rl ou tl, q)) rfl ?_
    refine RQ.if2 (a := (b : Int)) (b := (sc 304)) rfl rfl rfl rfl (by omega) (by omega) (fun (q : sc 304 ≤ (b : Int)) => absurd q (show ¬ sc 304 ≤ (b : Int) from by omega)) (fun _ => ?_)
    refine RQ.seg 6 (pc' := 22) (L' := [some (.ref 63), some (.int (iI i)), some (.int (iI (rnm (PI nw nb W B i) b))), some (.int (iI (b : Int)))]) (st' := [.int (iI (b : Int)), .int (iI i), .ref 63, .int ((iI (rnm (PI nw nb W B i) b)) * (iI 100))]) (g1 := (HW sc ar tx oc rl ou tl, q)) rfl ?_
    refine RQ.to (L' := [some (.ref 63), some (.int (iI i)), some (.int (iI (rnm (PI nw nb W B i) b))), some (.int (iI (b : Int)))]) (st' := [.int (iI (b : Int)), .int (iI i), .ref 63, .int (iI ((rnm (PI nw nb W B i) b) * 100))]) rfl (by simp only [iI_add, iI_sub, iI_mul, iI_neg]) ?_
    refine RQ.call rfl rfl (x_putIn (b := (b : Int)) hF hX hT hi (by omega)) ?_
    refine RQ.seg 4 (pc' := 4) (L' := [some (.ref 63), some (.int (iI i)), some (.int ((iI ((rnm (PI nw nb W B i) b) * 100)) + (iI (PI nw nb W B i (b : Int))))), some (.int ((iI (b : Int)) + (iI 1)))]) (st' := []) (g1 := (HW sc ar tx oc rl ou tl, q)) rfl ?_
    refine RQ.to (L' := [some (.ref 63), some (.int (iI i)), some (.int (iI ((rnm (PI nw nb W B i) b) * 100 + (PI nw nb W B i (b : Int))))), some (.int (iI ((b : Int) + 1)))]) (st' := []) (by simp only [iI_add, iI_sub, iI_mul, iI_neg]) rfl ?_
    exact x_ra_l hF hX hT hi hk m (b + 1) (by omega)
theorem x_rowAt {K : PK} {d : Nat} {sc : Nat → Int} {ar : Nat → Int → Int} {tx oc : Nat} {rl : Nat → Option Nat} {ou : Nat → Int64} {tl : List PO} {q : Nat × Nat} {i : Int} {nw nb : Int} {W B : Int → Int → Int} (hF : FrOK nw nb W B) (hX : FrX (sc 303) (sc 304) (ar 5) (ar 6) (ar 7) (ar 8) (ar 10) (ar 11) (ar 12) nw nb W B) (hT : RwT nw nb W B sc ar) (hi : 0 ≤ i ∧ i < 2147483648) : CallR K (d + 2) 76 [.ref 63, .int (iI i)] (HW sc ar tx oc rl ou tl, q) (some (.int (iI (rnm (PI nw nb W B i) nb.toNat)))) (HW sc ar tx oc rl ou tl, q) := by
  apply CQ.x
  have hn := hF.1
  have hm1 := hX.1
  have hm2 := hX.2.1
  refine CQ.of (own := 6) (n := 4) (ini := false) (rt := (some .int)) (cd := cd76) (by decide +kernel) rfl (by decide +kernel) rfl (Nat.le_of_ble_eq_true rfl) ?_
  refine RQ.seg 4 (pc' := 4) (L' := [some (.ref 63), some (.int (iI i)), some (.int (iI 0)), some (.int (iI 0))]) (st' := []) (g1 := (HW sc ar tx oc rl ou tl, q)) rfl ?_
  exact x_ra_l hF hX hT hi ⟨rfl, rfl⟩ nb.toNat 0 (by omega)
theorem x_savedAtI {K : PK} {d : Nat} {sc : Nat → Int} {ar : Nat → Int → Int} {tx : Nat} {rl : Nat → Option Nat} {ou : Nat → Int64} {tl : List PO} {q : Nat × Nat} {j n : Nat} {f : Int → Int} {i : Int} {nw nb : Int} {W B : Int → Int → Int} (hF : FrOK nw nb W B) (hX : FrX (sc 303) (sc 304) (ar 5) (ar 6) (ar 7) (ar 8) (ar 10) (ar 11) (ar 12) nw nb W B) {r e : Int → Int} (hj : j < tl.length) (hR : RwK nw nb W B r e n f sc ar) (hi : 0 ≤ i ∧ i < t3 (mny nw nb W B)) : CallR K (d + 2) 77 [.ref 63, .int (iI i)] (HW sc ar tx (j + 118) rl ou (otl tl j n f), q) (some (.int (iI (rsv nw nb W B i)))) (HW sc ar tx (j + 118) rl ou (otl tl j n f), q) := by
  apply CQ.x
  have hn := hF.1
  have hm1 := hX.1
  have hm2 := hX.2.1
  obtain ⟨hk1, hT, hmo, hn5, ⟨hr, he⟩, hf⟩ := id hR
  have hB := mny_b (nw := nw) (nb := nb) (W := W) (B := B) hF.1.2.1
  have ht3 := t3_r hB
  have hsz : sc 6308 = t3 (mny nw nb W B) := hT.2.2
  refine CQ.of (own := 6) (n := 2) (ini := false) (rt := (some .int)) (cd := cd77) (by decide +kernel) rfl (by decide +kernel) rfl (Nat.le_of_ble_eq_true rfl) ?_
  refine RQ.seg 1 (pc' := 1) (L' := [some (.ref 63), some (.int (iI i))]) (st' := [.int (iI i)]) (g1 := (HW sc ar tx (j + 118) rl ou (otl tl j n f), q)) rfl ?_
  refine RQ.if1 (a := i) rfl rfl rfl (by omega) (fun (q : i < 0) => absurd q (show ¬ i < 0 from by omega)) (fun _ => ?_)
  refine RQ.seg 3 (pc' := 9) (L' := [some (.ref 63), some (.int (iI i))]) (st' := [.int (iI (sc 6308)), .int (iI i)]) (g1 := (HW sc ar tx (j + 118) rl ou (otl tl j n f), q)) rfl ?_
  refine RQ.to (L' := [some (.ref 63), some (.int (iI i))]) (st' := [.int (iI (t3 (mny nw nb W B))), .int (iI i)]) rfl (by rw [show sc 6308 = t3 (mny nw nb W B) from hsz]) ?_
  refine RQ.if2 (a := i) (b := (t3 (mny nw nb W B))) rfl rfl rfl rfl (by omega) (by omega) (fun (q : t3 (mny nw nb W B) ≤ i) => absurd q (show ¬ t3 (mny nw nb W B) ≤ i from by omega)) (fun _ => ?_)
  refine RQ.seg 3 (pc' := 17) (L' := [some (.ref 63), some (.int (iI i))]) (st' := [.ref (j + 118), .int (iI i)]) (g1 := (HW sc ar tx (j + 118) rl ou (otl tl j n f), q)) rfl ?_
  refine RQ.alen rfl (HWo_r hj) ?_
  refine RQ.if2 (a := i) (b := (n : Int)) rfl rfl rfl rfl (by omega) (by omega) (fun (q : (n : Int) ≤ i) => absurd q (show ¬ (n : Int) ≤ i from by omega)) (fun _ => ?_)
  refine RQ.seg 3 (pc' := 26) (L' := [some (.ref 63), some (.int (iI i))]) (st' := [.int (iI i), .ref (j + 118)]) (g1 := (HW sc ar tx (j + 118) rl ou (otl tl j n f), q)) rfl ?_
  refine RQ.ialdv (z := i) (v := (mko nw nb W B r e i)) rfl rfl (HWo_r hj) (by omega) (by omega) (hf i (by omega) (by omega)) ?_
  have ho := mko_r hF hr he i
  refine RQ.call rfl rfl (x_alls (o := mko nw nb W B r e i) (by omega)) ?_
  rw [mko_als hF hr he]
  refine RQ.seg 1 (pc' := 34) (L' := [some (.ref 63), some (.int (iI i))]) (st' := [.int (iI (rsv nw nb W B i))]) (g1 := (HW sc ar tx (j + 118) rl ou (otl tl j n f), q)) rfl ?_
  refine RQ.ret rfl rfl ?_
  exact ⟨rfl, rfl⟩
theorem x_mostSaved {K : PK} {d : Nat} {sc : Nat → Int} {ar : Nat → Int → Int} {tx : Nat} {rl : Nat → Option Nat} {ou : Nat → Int64} {tl : List PO} {q : Nat × Nat} {j n : Nat} {f : Int → Int} {nw nb : Int} {W B : Int → Int → Int} (hF : FrOK nw nb W B) (hX : FrX (sc 303) (sc 304) (ar 5) (ar 6) (ar 7) (ar 8) (ar 10) (ar 11) (ar 12) nw nb W B) {r e : Int → Int} (hj : j < tl.length) (hR : RwK nw nb W B r e n f sc ar) : CallR K (d + 3) 78 [.ref 63] (HW sc ar tx (j + 118) rl ou (otl tl j n f), q) (some (.int (iI (rsv nw nb W B (amx (rsv nw nb W B) (t3 (mny nw nb W B)).toNat))))) (HW sc ar tx (j + 118) rl ou (otl tl j n f), q) := by
  apply CQ.x
  have hn := hF.1
  have hm1 := hX.1
  have hm2 := hX.2.1
  obtain ⟨hk1, hT, hmo, hn5, ⟨hr, he⟩, hf⟩ := id hR
  have hB := mny_b (nw := nw) (nb := nb) (W := W) (B := B) hF.1.2.1
  have ht3 := t3_r hB
  have hsz : sc 6308 = t3 (mny nw nb W B) := hT.2.2
  refine CQ.of (own := 6) (n := 1) (ini := false) (rt := (some .int)) (cd := cd78) (by decide +kernel) rfl (by decide +kernel) rfl (Nat.le_of_ble_eq_true rfl) ?_
  refine RQ.seg 3 (pc' := 5) (L' := [some (.ref 63)]) (st' := [.int (iI (sc 6309)), .ref 63]) (g1 := (HW sc ar tx (j + 118) rl ou (otl tl j n f), q)) rfl ?_
  refine RQ.to (L' := [some (.ref 63)]) (st' := [.int (iI (amx (rsv nw nb W B) (t3 (mny nw nb W B)).toNat)), .ref 63]) rfl (by rw [show sc 6309 = amx (rsv nw nb W B) (t3 (mny nw nb W B)).toNat from hmo]) ?_
  have ham := amx_r (rsv nw nb W B) (t3 (mny nw nb W B)).toNat
  refine RQ.call rfl rfl (x_savedAtI (i := amx (rsv nw nb W B) (t3 (mny nw nb W B)).toNat) hF hX hj hR (by omega)) ?_
  refine RQ.ret rfl rfl ?_
  exact ⟨rfl, rfl⟩
theorem x_markR {K : PK} {d : Nat} {sc : Nat → Int} {ar : Nat → Int → Int} {tx : Nat} {rl : Nat → Option Nat} {ou : Nat → Int64} {tl : List PO} {q : Nat × Nat} {j n : Nat} {f : Int → Int} {i v : Int} {nw nb : Int} {W B : Int → Int → Int} (hF : FrOK nw nb W B) (hX : FrX (sc 303) (sc 304) (ar 5) (ar 6) (ar 7) (ar 8) (ar 10) (ar 11) (ar 12) nw nb W B) {r e : Int → Int} (hj : j < tl.length) (hR : RwK nw nb W B r e n f sc ar) (hi : 0 ≤ i ∧ i < t3 (mny nw nb W B)) (hv : 0 ≤ v ∧ v ≤ 1) : CallR K (d + 1) 79 [.ref 63, .int (iI i), .int (iI 16777216), .int (iI v)] (HW sc ar tx (j + 118) rl ou (otl tl j n f), q) none (HW sc ar tx (j + 118) rl ou (otl tl j n (usz f i (pkm (oci nw nb W B i) v (e i)))), q) := by
  apply CQ.x
  have hn := hF.1
  have hm1 := hX.1
  have hm2 := hX.2.1
  obtain ⟨hk1, hT, hmo, hn5, ⟨hr, he⟩, hf⟩ := id hR
  have hB := mny_b (nw := nw) (nb := nb) (W := W) (B := B) hF.1.2.1
  have ht3 := t3_r hB
  have hsz : sc 6308 = t3 (mny nw nb W B) := hT.2.2
  refine CQ.of (own := 6) (n := 4) (ini := false) (rt := none) (cd := cd79) (by decide +kernel) rfl (by decide +kernel) rfl (Nat.le_of_ble_eq_true rfl) ?_
  refine RQ.seg 4 (pc' := 6) (L' := [some (.ref 63), some (.int (iI i)), some (.int (iI 16777216)), some (.int (iI v))]) (st' := [.int (iI v), .int (iI i), .ref (j + 118)]) (g1 := (HW sc ar tx (j + 118) rl ou (otl tl j n f), q)) rfl ?_
  refine RQ.if1 (a := v) rfl rfl rfl (by omega) (fun (h1 : v = 0) => ?_) (fun (h1 : ¬ v = 0) => ?_)
  · skip
    refine RQ.seg 3 (pc' := 25) (L' := [some (.ref 63), some (.int (iI i)), some (.int (iI 16777216)), some (.int (iI v))]) (st' := [.int (iI i), .ref (j + 118), .int (iI i), .ref (j + 118)]) (g1 := (HW sc ar tx (j + 118) rl ou (otl tl j n f), q)) rfl ?_
    refine RQ.ialdv (z := i) (v := (mko nw nb W B r e i)) rfl rfl (HWo_r hj) (by omega) (by omega) (hf i (by omega) (by omega)) ?_
    refine RQ.seg 2 (pc' := 28) (L' := [some (.ref 63), some (.int (iI i)), some (.int (iI 16777216)), some (.int (iI v))]) (st' := [.int (iI (-1)), .int (iI 16777216), .int (iI (mko nw nb W B r e i)), .int (iI i), .ref (j + 118)]) (g1 := (HW sc ar tx (j + 118) rl ou (otl tl j n f), q)) rfl ?_
    refine RQ.ixorq (v := -16777217) rfl (by decide) ?_
    obtain rfl : v = 0 := by omega
    refine RQ.iandq rfl (mark_r0 (oci_r hF i) (hr i) (he i)) ?_
    refine RQ.iast (z := i) (v := (pkm (oci nw nb W B i) 0 (e i))) (g1 := (HW sc ar tx (j + 118) rl ou (otl tl j n (usz f i (pkm (oci nw nb W B i) 0 (e i)))), q)) rfl rfl rfl (HWo_r hj) (by omega) (by omega) (congrArg (·, q) (HWo_s hj _)) ?_
    refine RQ.ret rfl rfl ?_
    exact ⟨rfl, rfl⟩
  · skip
    refine RQ.seg 3 (pc' := 14) (L' := [some (.ref 63), some (.int (iI i)), some (.int (iI 16777216)), some (.int (iI v))]) (st' := [.int (iI i), .ref (j + 118), .int (iI i), .ref (j + 118)]) (g1 := (HW sc ar tx (j + 118) rl ou (otl tl j n f), q)) rfl ?_
    refine RQ.ialdv (z := i) (v := (mko nw nb W B r e i)) rfl rfl (HWo_r hj) (by omega) (by omega) (hf i (by omega) (by omega)) ?_
    refine RQ.seg 1 (pc' := 16) (L' := [some (.ref 63), some (.int (iI i)), some (.int (iI 16777216)), some (.int (iI v))]) (st' := [.int (iI 16777216), .int (iI (mko nw nb W B r e i)), .int (iI i), .ref (j + 118)]) (g1 := (HW sc ar tx (j + 118) rl ou (otl tl j n f), q)) rfl ?_
    obtain rfl : v = 1 := by omega
    refine RQ.iorq rfl (mark_r1 (oci_r hF i) (hr i) (he i)) ?_
    refine RQ.seg 1 (pc' := 30) (L' := [some (.ref 63), some (.int (iI i)), some (.int (iI 16777216)), some (.int (iI 1))]) (st' := [.int (iI (pkm (oci nw nb W B i) 1 (e i))), .int (iI i), .ref (j + 118)]) (g1 := (HW sc ar tx (j + 118) rl ou (otl tl j n f), q)) rfl ?_
    refine RQ.iast (z := i) (v := (pkm (oci nw nb W B i) 1 (e i))) (g1 := (HW sc ar tx (j + 118) rl ou (otl tl j n (usz f i (pkm (oci nw nb W B i) 1 (e i)))), q)) rfl rfl rfl (HWo_r hj) (by omega) (by omega) (congrArg (·, q) (HWo_s hj _)) ?_
    refine RQ.ret rfl rfl ?_
    exact ⟨rfl, rfl⟩
theorem x_isR_t {K : PK} {d : Nat} {sc : Nat → Int} {ar : Nat → Int → Int} {tx : Nat} {rl : Nat → Option Nat} {ou : Nat → Int64} {tl : List PO} {q : Nat × Nat} {j n : Nat} {f : Int → Int} {i : Int} {nw nb : Int} {W B : Int → Int → Int} (hF : FrOK nw nb W B) (hX : FrX (sc 303) (sc 304) (ar 5) (ar 6) (ar 7) (ar 8) (ar 10) (ar 11) (ar 12) nw nb W B) {r e : Int → Int} (hj : j < tl.length) (hR : RwK nw nb W B r e n f sc ar) (hi : 0 ≤ i ∧ i < t3 (mny nw nb W B)) (hP : r i = 1) : CallR K (d + 1) 80 [.ref 63, .int (iI i), .int (iI 16777216)] (HW sc ar tx (j + 118) rl ou (otl tl j n f), q) (some (.int (iI 1))) (HW sc ar tx (j + 118) rl ou (otl tl j n f), q) := by
  apply CQ.x
  have hn := hF.1
  have hm1 := hX.1
  have hm2 := hX.2.1
  obtain ⟨hk1, hT, hmo, hn5, ⟨hr, he⟩, hf⟩ := id hR
  have hB := mny_b (nw := nw) (nb := nb) (W := W) (B := B) hF.1.2.1
  have ht3 := t3_r hB
  have hsz : sc 6308 = t3 (mny nw nb W B) := hT.2.2
  have ho := oci_r hF i
  have hri := hr i
  have hei := he i
  have hko : mko nw nb W B r e i = oci nw nb W B i + r i * 16777216 + e i * 33554432 := rfl
  refine CQ.of (own := 6) (n := 3) (ini := false) (rt := (some .boolean)) (cd := cd80) (by decide +kernel) rfl (by decide +kernel) rfl (Nat.le_of_ble_eq_true rfl) ?_
  refine RQ.seg 3 (pc' := 5) (L' := [some (.ref 63), some (.int (iI i)), some (.int (iI 16777216))]) (st' := [.int (iI i), .ref (j + 118)]) (g1 := (HW sc ar tx (j + 118) rl ou (otl tl j n f), q)) rfl ?_
  refine RQ.ialdv (z := i) (v := (mko nw nb W B r e i)) rfl rfl (HWo_r hj) (by omega) (by omega) (hf i (by omega) (by omega)) ?_
  refine RQ.seg 1 (pc' := 7) (L' := [some (.ref 63), some (.int (iI i)), some (.int (iI 16777216))]) (st' := [.int (iI 16777216), .int (iI (mko nw nb W B r e i))]) (g1 := (HW sc ar tx (j + 118) rl ou (otl tl j n f), q)) rfl ?_
  refine RQ.iandp 24 (a := (mko nw nb W B r e i)) (p := 16777216) rfl rfl rfl (by decide) (by omega) ?_
  refine RQ.if1 (a := ((mko nw nb W B r e i) / 16777216 % 2 * 16777216)) rfl rfl rfl (by omega) (fun (q : (mko nw nb W B r e i) / 16777216 % 2 * 16777216 = 0) => absurd q (show ¬ (mko nw nb W B r e i) / 16777216 % 2 * 16777216 = 0 from by omega)) (fun _ => ?_)
  refine RQ.seg 2 (pc' := 16) (L' := [some (.ref 63), some (.int (iI i)), some (.int (iI 16777216))]) (st' := [.int (iI 1)]) (g1 := (HW sc ar tx (j + 118) rl ou (otl tl j n f), q)) rfl ?_
  refine RQ.ret rfl rfl ?_
  exact ⟨rfl, rfl⟩
theorem x_isR_f {K : PK} {d : Nat} {sc : Nat → Int} {ar : Nat → Int → Int} {tx : Nat} {rl : Nat → Option Nat} {ou : Nat → Int64} {tl : List PO} {q : Nat × Nat} {j n : Nat} {f : Int → Int} {i : Int} {nw nb : Int} {W B : Int → Int → Int} (hF : FrOK nw nb W B) (hX : FrX (sc 303) (sc 304) (ar 5) (ar 6) (ar 7) (ar 8) (ar 10) (ar 11) (ar 12) nw nb W B) {r e : Int → Int} (hj : j < tl.length) (hR : RwK nw nb W B r e n f sc ar) (hi : 0 ≤ i ∧ i < t3 (mny nw nb W B)) (hP : r i = 0) : CallR K (d + 1) 80 [.ref 63, .int (iI i), .int (iI 16777216)] (HW sc ar tx (j + 118) rl ou (otl tl j n f), q) (some (.int (iI 0))) (HW sc ar tx (j + 118) rl ou (otl tl j n f), q) := by
  apply CQ.x
  have hn := hF.1
  have hm1 := hX.1
  have hm2 := hX.2.1
  obtain ⟨hk1, hT, hmo, hn5, ⟨hr, he⟩, hf⟩ := id hR
  have hB := mny_b (nw := nw) (nb := nb) (W := W) (B := B) hF.1.2.1
  have ht3 := t3_r hB
  have hsz : sc 6308 = t3 (mny nw nb W B) := hT.2.2
  have ho := oci_r hF i
  have hri := hr i
  have hei := he i
  have hko : mko nw nb W B r e i = oci nw nb W B i + r i * 16777216 + e i * 33554432 := rfl
  refine CQ.of (own := 6) (n := 3) (ini := false) (rt := (some .boolean)) (cd := cd80) (by decide +kernel) rfl (by decide +kernel) rfl (Nat.le_of_ble_eq_true rfl) ?_
  refine RQ.seg 3 (pc' := 5) (L' := [some (.ref 63), some (.int (iI i)), some (.int (iI 16777216))]) (st' := [.int (iI i), .ref (j + 118)]) (g1 := (HW sc ar tx (j + 118) rl ou (otl tl j n f), q)) rfl ?_
  refine RQ.ialdv (z := i) (v := (mko nw nb W B r e i)) rfl rfl (HWo_r hj) (by omega) (by omega) (hf i (by omega) (by omega)) ?_
  refine RQ.seg 1 (pc' := 7) (L' := [some (.ref 63), some (.int (iI i)), some (.int (iI 16777216))]) (st' := [.int (iI 16777216), .int (iI (mko nw nb W B r e i))]) (g1 := (HW sc ar tx (j + 118) rl ou (otl tl j n f), q)) rfl ?_
  refine RQ.iandp 24 (a := (mko nw nb W B r e i)) (p := 16777216) rfl rfl rfl (by decide) (by omega) ?_
  refine RQ.if1 (a := ((mko nw nb W B r e i) / 16777216 % 2 * 16777216)) rfl rfl rfl (by omega) (fun _ => ?_) (fun (q : ¬ (mko nw nb W B r e i) / 16777216 % 2 * 16777216 = 0) => absurd (show (mko nw nb W B r e i) / 16777216 % 2 * 16777216 = 0 from by omega) q)
  refine RQ.seg 1 (pc' := 16) (L' := [some (.ref 63), some (.int (iI i)), some (.int (iI 16777216))]) (st' := [.int (iI 0)]) (g1 := (HW sc ar tx (j + 118) rl ou (otl tl j n f), q)) rfl ?_
  refine RQ.ret rfl rfl ?_
  exact ⟨rfl, rfl⟩
theorem x_mrR_l {K : PK} {d : Nat} {sc : Nat → Int} {ar : Nat → Int → Int} {tx : Nat} {rl : Nat → Option Nat} {ou : Nat → Int64} {tl : List PO} {q : Nat × Nat} {j n : Nat} {f : Int → Int} {Q : Option Value → PG → Prop} {i : Int} {nw nb : Int} {W B : Int → Int → Int} (hF : FrOK nw nb W B) (hX : FrX (sc 303) (sc 304) (ar 5) (ar 6) (ar 7) (ar 8) (ar 10) (ar 11) (ar 12) nw nb W B) {r e : Int → Int} (hj : j < tl.length) (hR : RwK nw nb W B r e n f sc ar) (ri : -2147483648 ≤ i ∧ i < 2147483648) : ∀ (m : Nat) (k s : Int) (hm : 0 ≤ k ∧ k + m = t3 (mny nw nb W B)) (hs : 0 ≤ s ∧ s ≤ k) (hk : Q (some (.int (iI (pik r (fun k => rnm (PI nw nb W B k) nb.toNat) i m k s)))) (HW sc ar tx (j + 118) rl ou (otl tl j n f), q)), RQ K (d + 2) 6 false (some .int) cd81 5 [some (.ref 63), some (.int (iI 16777216)), some (.int (iI i)), some (.int (iI s)), some (.int (iI k))] [] (HW sc ar tx (j + 118) rl ou (otl tl j n f), q) Q
  | 0, k, s, hm, hs, hk => by
    have hn := hF.1
    have hm1 := hX.1
    have hm2 := hX.2.1
    obtain ⟨hk1, hT, hmo, hn5, ⟨hr, he⟩, hf⟩ := id hR
    have hB := mny_b (nw := nw) (nb := nb) (W := W) (B := B) hF.1.2.1
    have ht3 := t3_r hB
    have hsz : sc 6308 = t3 (mny nw nb W B) := hT.2.2
    refine RQ.seg 3 (pc' := 11) (L' := [some (.ref 63), some (.int (iI 16777216)), some (.int (iI i)), some (.int (iI s)), some (.int (iI k))]) (st' := [.int (iI (sc 6308)), .int (iI k)]) (g1 := (HW sc ar tx (j + 118) rl ou (otl tl j n f), q)) rfl ?_
    refine RQ.to (L' := [some (.ref 63), some (.int (iI 16777216)), some (.int (iI i)), some (.int (iI s)), some (.int (iI k))]) (st' := [.int (iI (t3 (mny nw nb W B))), .int (iI k)]) rfl (by rw [show sc 6308 = t3 (mny nw nb W B) from hsz]) ?_
    refine RQ.if2 (a := k) (b := (t3 (mny nw nb W B))) rfl rfl rfl rfl (by omega) (by omega) (fun _ => ?_) (fun (q : ¬ t3 (mny nw nb W B) ≤ k) => absurd (show t3 (mny nw nb W B) ≤ k from by omega) q)
    refine RQ.seg 2 (pc' := 47) (L' := [some (.ref 63), some (.int (iI 16777216)), some (.int (iI i)), some (.int (iI s)), some (.int (iI k))]) (st' := [.int (iI (-1)), .int (iI i)]) (g1 := (HW sc ar tx (j + 118) rl ou (otl tl j n f), q)) rfl ?_
    refine RQ.if2 (a := i) (b := (-1)) rfl rfl rfl rfl (by omega) (by omega) (fun (h2 : i ≠ (-1)) => ?_) (fun (h2 : ¬ i ≠ (-1)) => ?_)
    · skip
      refine RQ.seg 1 (pc' := 55) (L' := [some (.ref 63), some (.int (iI 16777216)), some (.int (iI i)), some (.int (iI s)), some (.int (iI k))]) (st' := [.int (iI (-1))]) (g1 := (HW sc ar tx (j + 118) rl ou (otl tl j n f), q)) rfl ?_
      refine RQ.ret rfl rfl ?_
      rw [pik] at hk
      first | (rw [if_pos (by omega)] at hk; exact hk) | (rw [if_neg (by omega)] at hk; exact hk)
    · skip
      refine RQ.seg 2 (pc' := 55) (L' := [some (.ref 63), some (.int (iI 16777216)), some (.int (iI i)), some (.int (iI s)), some (.int (iI k))]) (st' := [.int (iI s)]) (g1 := (HW sc ar tx (j + 118) rl ou (otl tl j n f), q)) rfl ?_
      refine RQ.ret rfl rfl ?_
      rw [pik] at hk
      first | (rw [if_pos (by omega)] at hk; exact hk) | (rw [if_neg (by omega)] at hk; exact hk)
  | m + 1, k, s, hm, hs, hk => by
    have hn := hF.1
    have hm1 := hX.1
    have hm2 := hX.2.1
    obtain ⟨hk1, hT, hmo, hn5, ⟨hr, he⟩, hf⟩ := id hR
    have hB := mny_b (nw := nw) (nb := nb) (W := W) (B := B) hF.1.2.1
    have ht3 := t3_r hB
    have hsz : sc 6308 = t3 (mny nw nb W B) := hT.2.2
    refine RQ.seg 3 (pc' := 11) (L' := [some (.ref 63), some (.int (iI 16777216)), some (.int (iI i)), some (.int (iI s)), some (.int (iI k))]) (st' := [.int (iI (sc 6308)), .int (iI k)]) (g1 := (HW sc ar tx (j + 118) rl ou (otl tl j n f), q)) rfl ?_
    refine RQ.to (L' := [some (.ref 63), some (.int (iI 16777216)), some (.int (iI i)), some (.int (iI s)), some (.int (iI k))]) (st' := [.int (iI (t3 (mny nw nb W B))), .int (iI k)]) rfl (by rw [show sc 6308 = t3 (mny nw nb W B) from hsz]) ?_
    refine RQ.if2 (a := k) (b := (t3 (mny nw nb W B))) rfl rfl rfl rfl (by omega) (by omega) (fun (q : t3 (mny nw nb W B) ≤ k) => absurd q (show ¬ t3 (mny nw nb W B) ≤ k from by omega)) (fun _ => ?_)
    refine RQ.seg 3 (pc' := 18) (L' := [some (.ref 63), some (.int (iI 16777216)), some (.int (iI i)), some (.int (iI s)), some (.int (iI k))]) (st' := [.int (iI 16777216), .int (iI k), .ref 63]) (g1 := (HW sc ar tx (j + 118) rl ou (otl tl j n f), q)) rfl ?_
    have hrk := hr k
    rcases (show r k = 1 ∨ r k = 0 by omega) with h5 | h5
    · skip
      rw [pik, if_pos h5] at hk
      refine RQ.call rfl rfl (x_isR_t hF hX hj hR (by omega) h5) ?_
      refine RQ.seg 3 (pc' := 26) (L' := [some (.ref 63), some (.int (iI 16777216)), some (.int (iI i)), some (.int (iI s)), some (.int (iI k))]) (st' := [.int (iI i), .int (iI s)]) (g1 := (HW sc ar tx (j + 118) rl ou (otl tl j n f), q)) rfl ?_
      refine RQ.if2 (a := s) (b := i) rfl rfl rfl rfl (by omega) (by omega) (fun (h2 : s ≠ i) => ?_) (fun (h2 : ¬ s ≠ i) => ?_)
      · skip
        refine RQ.seg 3 (pc' := 5) (L' := [some (.ref 63), some (.int (iI 16777216)), some (.int (iI i)), some (.int ((iI s) + (iI 1))), some (.int ((iI k) + (iI 1)))]) (st' := []) (g1 := (HW sc ar tx (j + 118) rl ou (otl tl j n f), q)) rfl ?_
        refine RQ.to (L' := [some (.ref 63), some (.int (iI 16777216)), some (.int (iI i)), some (.int (iI (s + 1))), some (.int (iI (k + 1)))]) (st' := []) (by simp only [iI_add, iI_sub, iI_mul, iI_neg]) rfl ?_
        rw [if_neg (by omega)] at hk
        exact x_mrR_l hF hX hj hR ri m (k + 1) (s + 1) (by omega) (by omega) hk
      · skip
        refine RQ.seg 2 (pc' := 32) (L' := [some (.ref 63), some (.int (iI 16777216)), some (.int (iI i)), some (.int (iI s)), some (.int (iI k))]) (st' := [.int (iI k), .ref 63]) (g1 := (HW sc ar tx (j + 118) rl ou (otl tl j n f), q)) rfl ?_
        rw [if_pos (by omega)] at hk
        refine RQ.call rfl rfl (x_rowAt (i := k) hF hX hT (by omega)) ?_
        refine RQ.ret rfl rfl ?_
        exact hk
    · skip
      rw [pik, if_neg (by omega)] at hk
      refine RQ.call rfl rfl (x_isR_f hF hX hj hR (by omega) h5) ?_
      refine RQ.seg 3 (pc' := 5) (L' := [some (.ref 63), some (.int (iI 16777216)), some (.int (iI i)), some (.int (iI s)), some (.int ((iI k) + (iI 1)))]) (st' := []) (g1 := (HW sc ar tx (j + 118) rl ou (otl tl j n f), q)) rfl ?_
      refine RQ.to (L' := [some (.ref 63), some (.int (iI 16777216)), some (.int (iI i)), some (.int (iI s)), some (.int (iI (k + 1)))]) (st' := []) (by simp only [iI_add, iI_sub, iI_mul, iI_neg]) rfl ?_
      exact x_mrR_l hF hX hj hR ri m (k + 1) s (by omega) (by omega) hk
theorem x_markedRowR {K : PK} {d : Nat} {sc : Nat → Int} {ar : Nat → Int → Int} {tx : Nat} {rl : Nat → Option Nat} {ou : Nat → Int64} {tl : List PO} {q : Nat × Nat} {j n : Nat} {f : Int → Int} {i : Int} {nw nb : Int} {W B : Int → Int → Int} (hF : FrOK nw nb W B) (hX : FrX (sc 303) (sc 304) (ar 5) (ar 6) (ar 7) (ar 8) (ar 10) (ar 11) (ar 12) nw nb W B) {r e : Int → Int} (hj : j < tl.length) (hR : RwK nw nb W B r e n f sc ar) (ri : -2147483648 ≤ i ∧ i < 2147483648) : CallR K (d + 3) 81 [.ref 63, .int (iI 16777216), .int (iI i)] (HW sc ar tx (j + 118) rl ou (otl tl j n f), q) (some (.int (iI (pik r (fun k => rnm (PI nw nb W B k) nb.toNat) i (t3 (mny nw nb W B)).toNat 0 0)))) (HW sc ar tx (j + 118) rl ou (otl tl j n f), q) := by
  apply CQ.x
  have hn := hF.1
  have hm1 := hX.1
  have hm2 := hX.2.1
  obtain ⟨hk1, hT, hmo, hn5, ⟨hr, he⟩, hf⟩ := id hR
  have hB := mny_b (nw := nw) (nb := nb) (W := W) (B := B) hF.1.2.1
  have ht3 := t3_r hB
  have hsz : sc 6308 = t3 (mny nw nb W B) := hT.2.2
  refine CQ.of (own := 6) (n := 5) (ini := false) (rt := (some .int)) (cd := cd81) (by decide +kernel) rfl (by decide +kernel) rfl (Nat.le_of_ble_eq_true rfl) ?_
  refine RQ.seg 4 (pc' := 5) (L' := [some (.ref 63), some (.int (iI 16777216)), some (.int (iI i)), some (.int (iI 0)), some (.int (iI 0))]) (st' := []) (g1 := (HW sc ar tx (j + 118) rl ou (otl tl j n f), q)) rfl ?_
  exact x_mrR_l hF hX hj hR ri (t3 (mny nw nb W B)).toNat 0 0 (by omega) (by omega) ⟨rfl, rfl⟩
theorem x_markE {K : PK} {d : Nat} {sc : Nat → Int} {ar : Nat → Int → Int} {tx : Nat} {rl : Nat → Option Nat} {ou : Nat → Int64} {tl : List PO} {q : Nat × Nat} {j n : Nat} {f : Int → Int} {i v : Int} {nw nb : Int} {W B : Int → Int → Int} (hF : FrOK nw nb W B) (hX : FrX (sc 303) (sc 304) (ar 5) (ar 6) (ar 7) (ar 8) (ar 10) (ar 11) (ar 12) nw nb W B) {r e : Int → Int} (hj : j < tl.length) (hR : RwK nw nb W B r e n f sc ar) (hi : 0 ≤ i ∧ i < t3 (mny nw nb W B)) (hv : 0 ≤ v ∧ v ≤ 1) : CallR K (d + 1) 79 [.ref 63, .int (iI i), .int (iI 33554432), .int (iI v)] (HW sc ar tx (j + 118) rl ou (otl tl j n f), q) none (HW sc ar tx (j + 118) rl ou (otl tl j n (usz f i (pkm (oci nw nb W B i) (r i) v))), q) := by
  apply CQ.x
  have hn := hF.1
  have hm1 := hX.1
  have hm2 := hX.2.1
  obtain ⟨hk1, hT, hmo, hn5, ⟨hr, he⟩, hf⟩ := id hR
  have hB := mny_b (nw := nw) (nb := nb) (W := W) (B := B) hF.1.2.1
  have ht3 := t3_r hB
  have hsz : sc 6308 = t3 (mny nw nb W B) := hT.2.2
  refine CQ.of (own := 6) (n := 4) (ini := false) (rt := none) (cd := cd79) (by decide +kernel) rfl (by decide +kernel) rfl (Nat.le_of_ble_eq_true rfl) ?_
  refine RQ.seg 4 (pc' := 6) (L' := [some (.ref 63), some (.int (iI i)), some (.int (iI 33554432)), some (.int (iI v))]) (st' := [.int (iI v), .int (iI i), .ref (j + 118)]) (g1 := (HW sc ar tx (j + 118) rl ou (otl tl j n f), q)) rfl ?_
  refine RQ.if1 (a := v) rfl rfl rfl (by omega) (fun (h1 : v = 0) => ?_) (fun (h1 : ¬ v = 0) => ?_)
  · skip
    refine RQ.seg 3 (pc' := 25) (L' := [some (.ref 63), some (.int (iI i)), some (.int (iI 33554432)), some (.int (iI v))]) (st' := [.int (iI i), .ref (j + 118), .int (iI i), .ref (j + 118)]) (g1 := (HW sc ar tx (j + 118) rl ou (otl tl j n f), q)) rfl ?_
    refine RQ.ialdv (z := i) (v := (mko nw nb W B r e i)) rfl rfl (HWo_r hj) (by omega) (by omega) (hf i (by omega) (by omega)) ?_
    refine RQ.seg 2 (pc' := 28) (L' := [some (.ref 63), some (.int (iI i)), some (.int (iI 33554432)), some (.int (iI v))]) (st' := [.int (iI (-1)), .int (iI 33554432), .int (iI (mko nw nb W B r e i)), .int (iI i), .ref (j + 118)]) (g1 := (HW sc ar tx (j + 118) rl ou (otl tl j n f), q)) rfl ?_
    refine RQ.ixorq (v := -33554433) rfl (by decide) ?_
    obtain rfl : v = 0 := by omega
    refine RQ.iandq rfl (mark_e0 (oci_r hF i) (hr i) (he i)) ?_
    refine RQ.iast (z := i) (v := (pkm (oci nw nb W B i) (r i) 0)) (g1 := (HW sc ar tx (j + 118) rl ou (otl tl j n (usz f i (pkm (oci nw nb W B i) (r i) 0))), q)) rfl rfl rfl (HWo_r hj) (by omega) (by omega) (congrArg (·, q) (HWo_s hj _)) ?_
    refine RQ.ret rfl rfl ?_
    exact ⟨rfl, rfl⟩
  · skip
    refine RQ.seg 3 (pc' := 14) (L' := [some (.ref 63), some (.int (iI i)), some (.int (iI 33554432)), some (.int (iI v))]) (st' := [.int (iI i), .ref (j + 118), .int (iI i), .ref (j + 118)]) (g1 := (HW sc ar tx (j + 118) rl ou (otl tl j n f), q)) rfl ?_
    refine RQ.ialdv (z := i) (v := (mko nw nb W B r e i)) rfl rfl (HWo_r hj) (by omega) (by omega) (hf i (by omega) (by omega)) ?_
    refine RQ.seg 1 (pc' := 16) (L' := [some (.ref 63), some (.int (iI i)), some (.int (iI 33554432)), some (.int (iI v))]) (st' := [.int (iI 33554432), .int (iI (mko nw nb W B r e i)), .int (iI i), .ref (j + 118)]) (g1 := (HW sc ar tx (j + 118) rl ou (otl tl j n f), q)) rfl ?_
    obtain rfl : v = 1 := by omega
    refine RQ.iorq rfl (mark_e1 (oci_r hF i) (hr i) (he i)) ?_
    refine RQ.seg 1 (pc' := 30) (L' := [some (.ref 63), some (.int (iI i)), some (.int (iI 33554432)), some (.int (iI 1))]) (st' := [.int (iI (pkm (oci nw nb W B i) (r i) 1)), .int (iI i), .ref (j + 118)]) (g1 := (HW sc ar tx (j + 118) rl ou (otl tl j n f), q)) rfl ?_
    refine RQ.iast (z := i) (v := (pkm (oci nw nb W B i) (r i) 1)) (g1 := (HW sc ar tx (j + 118) rl ou (otl tl j n (usz f i (pkm (oci nw nb W B i) (r i) 1))), q)) rfl rfl rfl (HWo_r hj) (by omega) (by omega) (congrArg (·, q) (HWo_s hj _)) ?_
    refine RQ.ret rfl rfl ?_
    exact ⟨rfl, rfl⟩
theorem x_isE_t {K : PK} {d : Nat} {sc : Nat → Int} {ar : Nat → Int → Int} {tx : Nat} {rl : Nat → Option Nat} {ou : Nat → Int64} {tl : List PO} {q : Nat × Nat} {j n : Nat} {f : Int → Int} {i : Int} {nw nb : Int} {W B : Int → Int → Int} (hF : FrOK nw nb W B) (hX : FrX (sc 303) (sc 304) (ar 5) (ar 6) (ar 7) (ar 8) (ar 10) (ar 11) (ar 12) nw nb W B) {r e : Int → Int} (hj : j < tl.length) (hR : RwK nw nb W B r e n f sc ar) (hi : 0 ≤ i ∧ i < t3 (mny nw nb W B)) (hP : e i = 1) : CallR K (d + 1) 80 [.ref 63, .int (iI i), .int (iI 33554432)] (HW sc ar tx (j + 118) rl ou (otl tl j n f), q) (some (.int (iI 1))) (HW sc ar tx (j + 118) rl ou (otl tl j n f), q) := by
  apply CQ.x
  have hn := hF.1
  have hm1 := hX.1
  have hm2 := hX.2.1
  obtain ⟨hk1, hT, hmo, hn5, ⟨hr, he⟩, hf⟩ := id hR
  have hB := mny_b (nw := nw) (nb := nb) (W := W) (B := B) hF.1.2.1
  have ht3 := t3_r hB
  have hsz : sc 6308 = t3 (mny nw nb W B) := hT.2.2
  have ho := oci_r hF i
  have hri := hr i
  have hei := he i
  have hko : mko nw nb W B r e i = oci nw nb W B i + r i * 16777216 + e i * 33554432 := rfl
  refine CQ.of (own := 6) (n := 3) (ini := false) (rt := (some .boolean)) (cd := cd80) (by decide +kernel) rfl (by decide +kernel) rfl (Nat.le_of_ble_eq_true rfl) ?_
  refine RQ.seg 3 (pc' := 5) (L' := [some (.ref 63), some (.int (iI i)), some (.int (iI 33554432))]) (st' := [.int (iI i), .ref (j + 118)]) (g1 := (HW sc ar tx (j + 118) rl ou (otl tl j n f), q)) rfl ?_
  refine RQ.ialdv (z := i) (v := (mko nw nb W B r e i)) rfl rfl (HWo_r hj) (by omega) (by omega) (hf i (by omega) (by omega)) ?_
  refine RQ.seg 1 (pc' := 7) (L' := [some (.ref 63), some (.int (iI i)), some (.int (iI 33554432))]) (st' := [.int (iI 33554432), .int (iI (mko nw nb W B r e i))]) (g1 := (HW sc ar tx (j + 118) rl ou (otl tl j n f), q)) rfl ?_
  refine RQ.iandp 25 (a := (mko nw nb W B r e i)) (p := 33554432) rfl rfl rfl (by decide) (by omega) ?_
  refine RQ.if1 (a := ((mko nw nb W B r e i) / 33554432 % 2 * 33554432)) rfl rfl rfl (by omega) (fun (q : (mko nw nb W B r e i) / 33554432 % 2 * 33554432 = 0) => absurd q (show ¬ (mko nw nb W B r e i) / 33554432 % 2 * 33554432 = 0 from by omega)) (fun _ => ?_)
  refine RQ.seg 2 (pc' := 16) (L' := [some (.ref 63), some (.int (iI i)), some (.int (iI 33554432))]) (st' := [.int (iI 1)]) (g1 := (HW sc ar tx (j + 118) rl ou (otl tl j n f), q)) rfl ?_
  refine RQ.ret rfl rfl ?_
  exact ⟨rfl, rfl⟩
theorem x_isE_f {K : PK} {d : Nat} {sc : Nat → Int} {ar : Nat → Int → Int} {tx : Nat} {rl : Nat → Option Nat} {ou : Nat → Int64} {tl : List PO} {q : Nat × Nat} {j n : Nat} {f : Int → Int} {i : Int} {nw nb : Int} {W B : Int → Int → Int} (hF : FrOK nw nb W B) (hX : FrX (sc 303) (sc 304) (ar 5) (ar 6) (ar 7) (ar 8) (ar 10) (ar 11) (ar 12) nw nb W B) {r e : Int → Int} (hj : j < tl.length) (hR : RwK nw nb W B r e n f sc ar) (hi : 0 ≤ i ∧ i < t3 (mny nw nb W B)) (hP : e i = 0) : CallR K (d + 1) 80 [.ref 63, .int (iI i), .int (iI 33554432)] (HW sc ar tx (j + 118) rl ou (otl tl j n f), q) (some (.int (iI 0))) (HW sc ar tx (j + 118) rl ou (otl tl j n f), q) := by
  apply CQ.x
  have hn := hF.1
  have hm1 := hX.1
  have hm2 := hX.2.1
  obtain ⟨hk1, hT, hmo, hn5, ⟨hr, he⟩, hf⟩ := id hR
  have hB := mny_b (nw := nw) (nb := nb) (W := W) (B := B) hF.1.2.1
  have ht3 := t3_r hB
  have hsz : sc 6308 = t3 (mny nw nb W B) := hT.2.2
  have ho := oci_r hF i
  have hri := hr i
  have hei := he i
  have hko : mko nw nb W B r e i = oci nw nb W B i + r i * 16777216 + e i * 33554432 := rfl
  refine CQ.of (own := 6) (n := 3) (ini := false) (rt := (some .boolean)) (cd := cd80) (by decide +kernel) rfl (by decide +kernel) rfl (Nat.le_of_ble_eq_true rfl) ?_
  refine RQ.seg 3 (pc' := 5) (L' := [some (.ref 63), some (.int (iI i)), some (.int (iI 33554432))]) (st' := [.int (iI i), .ref (j + 118)]) (g1 := (HW sc ar tx (j + 118) rl ou (otl tl j n f), q)) rfl ?_
  refine RQ.ialdv (z := i) (v := (mko nw nb W B r e i)) rfl rfl (HWo_r hj) (by omega) (by omega) (hf i (by omega) (by omega)) ?_
  refine RQ.seg 1 (pc' := 7) (L' := [some (.ref 63), some (.int (iI i)), some (.int (iI 33554432))]) (st' := [.int (iI 33554432), .int (iI (mko nw nb W B r e i))]) (g1 := (HW sc ar tx (j + 118) rl ou (otl tl j n f), q)) rfl ?_
  refine RQ.iandp 25 (a := (mko nw nb W B r e i)) (p := 33554432) rfl rfl rfl (by decide) (by omega) ?_
  refine RQ.if1 (a := ((mko nw nb W B r e i) / 33554432 % 2 * 33554432)) rfl rfl rfl (by omega) (fun _ => ?_) (fun (q : ¬ (mko nw nb W B r e i) / 33554432 % 2 * 33554432 = 0) => absurd (show (mko nw nb W B r e i) / 33554432 % 2 * 33554432 = 0 from by omega) q)
  refine RQ.seg 1 (pc' := 16) (L' := [some (.ref 63), some (.int (iI i)), some (.int (iI 33554432))]) (st' := [.int (iI 0)]) (g1 := (HW sc ar tx (j + 118) rl ou (otl tl j n f), q)) rfl ?_
  refine RQ.ret rfl rfl ?_
  exact ⟨rfl, rfl⟩
theorem x_mrE_l {K : PK} {d : Nat} {sc : Nat → Int} {ar : Nat → Int → Int} {tx : Nat} {rl : Nat → Option Nat} {ou : Nat → Int64} {tl : List PO} {q : Nat × Nat} {j n : Nat} {f : Int → Int} {Q : Option Value → PG → Prop} {i : Int} {nw nb : Int} {W B : Int → Int → Int} (hF : FrOK nw nb W B) (hX : FrX (sc 303) (sc 304) (ar 5) (ar 6) (ar 7) (ar 8) (ar 10) (ar 11) (ar 12) nw nb W B) {r e : Int → Int} (hj : j < tl.length) (hR : RwK nw nb W B r e n f sc ar) (ri : -2147483648 ≤ i ∧ i < 2147483648) : ∀ (m : Nat) (k s : Int) (hm : 0 ≤ k ∧ k + m = t3 (mny nw nb W B)) (hs : 0 ≤ s ∧ s ≤ k) (hk : Q (some (.int (iI (pik e (fun k => rnm (PI nw nb W B k) nb.toNat) i m k s)))) (HW sc ar tx (j + 118) rl ou (otl tl j n f), q)), RQ K (d + 2) 6 false (some .int) cd81 5 [some (.ref 63), some (.int (iI 33554432)), some (.int (iI i)), some (.int (iI s)), some (.int (iI k))] [] (HW sc ar tx (j + 118) rl ou (otl tl j n f), q) Q
  | 0, k, s, hm, hs, hk => by
    have hn := hF.1
    have hm1 := hX.1
    have hm2 := hX.2.1
    obtain ⟨hk1, hT, hmo, hn5, ⟨hr, he⟩, hf⟩ := id hR
    have hB := mny_b (nw := nw) (nb := nb) (W := W) (B := B) hF.1.2.1
    have ht3 := t3_r hB
    have hsz : sc 6308 = t3 (mny nw nb W B) := hT.2.2
    refine RQ.seg 3 (pc' := 11) (L' := [some (.ref 63), some (.int (iI 33554432)), some (.int (iI i)), some (.int (iI s)), some (.int (iI k))]) (st' := [.int (iI (sc 6308)), .int (iI k)]) (g1 := (HW sc ar tx (j + 118) rl ou (otl tl j n f), q)) rfl ?_
    refine RQ.to (L' := [some (.ref 63), some (.int (iI 33554432)), some (.int (iI i)), some (.int (iI s)), some (.int (iI k))]) (st' := [.int (iI (t3 (mny nw nb W B))), .int (iI k)]) rfl (by rw [show sc 6308 = t3 (mny nw nb W B) from hsz]) ?_
    refine RQ.if2 (a := k) (b := (t3 (mny nw nb W B))) rfl rfl rfl rfl (by omega) (by omega) (fun _ => ?_) (fun (q : ¬ t3 (mny nw nb W B) ≤ k) => absurd (show t3 (mny nw nb W B) ≤ k from by omega) q)
    refine RQ.seg 2 (pc' := 47) (L' := [some (.ref 63), some (.int (iI 33554432)), some (.int (iI i)), some (.int (iI s)), some (.int (iI k))]) (st' := [.int (iI (-1)), .int (iI i)]) (g1 := (HW sc ar tx (j + 118) rl ou (otl tl j n f), q)) rfl ?_
    refine RQ.if2 (a := i) (b := (-1)) rfl rfl rfl rfl (by omega) (by omega) (fun (h2 : i ≠ (-1)) => ?_) (fun (h2 : ¬ i ≠ (-1)) => ?_)
    · skip
      refine RQ.seg 1 (pc' := 55) (L' := [some (.ref 63), some (.int (iI 33554432)), some (.int (iI i)), some (.int (iI s)), some (.int (iI k))]) (st' := [.int (iI (-1))]) (g1 := (HW sc ar tx (j + 118) rl ou (otl tl j n f), q)) rfl ?_
      refine RQ.ret rfl rfl ?_
      rw [pik] at hk
      first | (rw [if_pos (by omega)] at hk; exact hk) | (rw [if_neg (by omega)] at hk; exact hk)
    · skip
      refine RQ.seg 2 (pc' := 55) (L' := [some (.ref 63), some (.int (iI 33554432)), some (.int (iI i)), some (.int (iI s)), some (.int (iI k))]) (st' := [.int (iI s)]) (g1 := (HW sc ar tx (j + 118) rl ou (otl tl j n f), q)) rfl ?_
      refine RQ.ret rfl rfl ?_
      rw [pik] at hk
      first | (rw [if_pos (by omega)] at hk; exact hk) | (rw [if_neg (by omega)] at hk; exact hk)
  | m + 1, k, s, hm, hs, hk => by
    have hn := hF.1
    have hm1 := hX.1
    have hm2 := hX.2.1
    obtain ⟨hk1, hT, hmo, hn5, ⟨hr, he⟩, hf⟩ := id hR
    have hB := mny_b (nw := nw) (nb := nb) (W := W) (B := B) hF.1.2.1
    have ht3 := t3_r hB
    have hsz : sc 6308 = t3 (mny nw nb W B) := hT.2.2
    refine RQ.seg 3 (pc' := 11) (L' := [some (.ref 63), some (.int (iI 33554432)), some (.int (iI i)), some (.int (iI s)), some (.int (iI k))]) (st' := [.int (iI (sc 6308)), .int (iI k)]) (g1 := (HW sc ar tx (j + 118) rl ou (otl tl j n f), q)) rfl ?_
    refine RQ.to (L' := [some (.ref 63), some (.int (iI 33554432)), some (.int (iI i)), some (.int (iI s)), some (.int (iI k))]) (st' := [.int (iI (t3 (mny nw nb W B))), .int (iI k)]) rfl (by rw [show sc 6308 = t3 (mny nw nb W B) from hsz]) ?_
    refine RQ.if2 (a := k) (b := (t3 (mny nw nb W B))) rfl rfl rfl rfl (by omega) (by omega) (fun (q : t3 (mny nw nb W B) ≤ k) => absurd q (show ¬ t3 (mny nw nb W B) ≤ k from by omega)) (fun _ => ?_)
    refine RQ.seg 3 (pc' := 18) (L' := [some (.ref 63), some (.int (iI 33554432)), some (.int (iI i)), some (.int (iI s)), some (.int (iI k))]) (st' := [.int (iI 33554432), .int (iI k), .ref 63]) (g1 := (HW sc ar tx (j + 118) rl ou (otl tl j n f), q)) rfl ?_
    have hrk := he k
    rcases (show e k = 1 ∨ e k = 0 by omega) with h5 | h5
    · skip
      rw [pik, if_pos h5] at hk
      refine RQ.call rfl rfl (x_isE_t hF hX hj hR (by omega) h5) ?_
      refine RQ.seg 3 (pc' := 26) (L' := [some (.ref 63), some (.int (iI 33554432)), some (.int (iI i)), some (.int (iI s)), some (.int (iI k))]) (st' := [.int (iI i), .int (iI s)]) (g1 := (HW sc ar tx (j + 118) rl ou (otl tl j n f), q)) rfl ?_
      refine RQ.if2 (a := s) (b := i) rfl rfl rfl rfl (by omega) (by omega) (fun (h2 : s ≠ i) => ?_) (fun (h2 : ¬ s ≠ i) => ?_)
      · skip
        refine RQ.seg 3 (pc' := 5) (L' := [some (.ref 63), some (.int (iI 33554432)), some (.int (iI i)), some (.int ((iI s) + (iI 1))), some (.int ((iI k) + (iI 1)))]) (st' := []) (g1 := (HW sc ar tx (j + 118) rl ou (otl tl j n f), q)) rfl ?_
        refine RQ.to (L' := [some (.ref 63), some (.int (iI 33554432)), some (.int (iI i)), some (.int (iI (s + 1))), some (.int (iI (k + 1)))]) (st' := []) (by simp only [iI_add, iI_sub, iI_mul, iI_neg]) rfl ?_
        rw [if_neg (by omega)] at hk
        exact x_mrE_l hF hX hj hR ri m (k + 1) (s + 1) (by omega) (by omega) hk
      · skip
        refine RQ.seg 2 (pc' := 32) (L' := [some (.ref 63), some (.int (iI 33554432)), some (.int (iI i)), some (.int (iI s)), some (.int (iI k))]) (st' := [.int (iI k), .ref 63]) (g1 := (HW sc ar tx (j + 118) rl ou (otl tl j n f), q)) rfl ?_
        rw [if_pos (by omega)] at hk
        refine RQ.call rfl rfl (x_rowAt (i := k) hF hX hT (by omega)) ?_
        refine RQ.ret rfl rfl ?_
        exact hk
    · skip
      rw [pik, if_neg (by omega)] at hk
      refine RQ.call rfl rfl (x_isE_f hF hX hj hR (by omega) h5) ?_
      refine RQ.seg 3 (pc' := 5) (L' := [some (.ref 63), some (.int (iI 33554432)), some (.int (iI i)), some (.int (iI s)), some (.int ((iI k) + (iI 1)))]) (st' := []) (g1 := (HW sc ar tx (j + 118) rl ou (otl tl j n f), q)) rfl ?_
      refine RQ.to (L' := [some (.ref 63), some (.int (iI 33554432)), some (.int (iI i)), some (.int (iI s)), some (.int (iI (k + 1)))]) (st' := []) (by simp only [iI_add, iI_sub, iI_mul, iI_neg]) rfl ?_
      exact x_mrE_l hF hX hj hR ri m (k + 1) s (by omega) (by omega) hk
theorem x_markedRowE {K : PK} {d : Nat} {sc : Nat → Int} {ar : Nat → Int → Int} {tx : Nat} {rl : Nat → Option Nat} {ou : Nat → Int64} {tl : List PO} {q : Nat × Nat} {j n : Nat} {f : Int → Int} {i : Int} {nw nb : Int} {W B : Int → Int → Int} (hF : FrOK nw nb W B) (hX : FrX (sc 303) (sc 304) (ar 5) (ar 6) (ar 7) (ar 8) (ar 10) (ar 11) (ar 12) nw nb W B) {r e : Int → Int} (hj : j < tl.length) (hR : RwK nw nb W B r e n f sc ar) (ri : -2147483648 ≤ i ∧ i < 2147483648) : CallR K (d + 3) 81 [.ref 63, .int (iI 33554432), .int (iI i)] (HW sc ar tx (j + 118) rl ou (otl tl j n f), q) (some (.int (iI (pik e (fun k => rnm (PI nw nb W B k) nb.toNat) i (t3 (mny nw nb W B)).toNat 0 0)))) (HW sc ar tx (j + 118) rl ou (otl tl j n f), q) := by
  apply CQ.x
  have hn := hF.1
  have hm1 := hX.1
  have hm2 := hX.2.1
  obtain ⟨hk1, hT, hmo, hn5, ⟨hr, he⟩, hf⟩ := id hR
  have hB := mny_b (nw := nw) (nb := nb) (W := W) (B := B) hF.1.2.1
  have ht3 := t3_r hB
  have hsz : sc 6308 = t3 (mny nw nb W B) := hT.2.2
  refine CQ.of (own := 6) (n := 5) (ini := false) (rt := (some .int)) (cd := cd81) (by decide +kernel) rfl (by decide +kernel) rfl (Nat.le_of_ble_eq_true rfl) ?_
  refine RQ.seg 4 (pc' := 5) (L' := [some (.ref 63), some (.int (iI 33554432)), some (.int (iI i)), some (.int (iI 0)), some (.int (iI 0))]) (st' := []) (g1 := (HW sc ar tx (j + 118) rl ou (otl tl j n f), q)) rfl ?_
  exact x_mrE_l hF hX hj hR ri (t3 (mny nw nb W B)).toNat 0 0 (by omega) (by omega) ⟨rfl, rfl⟩
theorem x_fa_l {K : PK} {d : Nat} {tx : Nat} {rl : Nat → Option Nat} {ou : Nat → Int64} {tl : List PO} {q : Nat × Nat} {j n : Nat} {Q : Option Value → PG → Prop} {nw nb : Int} {W B : Int → Int → Int} (hF : FrOK nw nb W B) (hj : j < tl.length) (hn5 : t3 (mny nw nb W B) ≤ n ∧ n ≤ 15625) : ∀ (m k : Nat) (sc : Nat → Int) (ar : Nat → Int → Int) (f : Int → Int) (e2 : Option Value) (hm : (k : Int) + m = t3 (mny nw nb W B)) (hX : FrX (sc 303) (sc 304) (ar 5) (ar 6) (ar 7) (ar 8) (ar 10) (ar 11) (ar 12) nw nb W B) (hT : RwT nw nb W B sc ar) (hmo : sc 6309 = amx (rsv nw nb W B) k) (hf : ∀ i, 0 ≤ i → i < (k : Int) → f i = oci nw nb W B i) (hk : ∀ sc' ar' f', Same rkF sc sc' → Same scA ar ar' → RwK nw nb W B (fun _ => 0) (fun _ => 0) n f' sc' ar' → Q none (HW sc' ar' tx (j + 118) rl ou (otl tl j n f'), q)), RQ K (d + 3) 6 false none cd71 23 [some (.ref 63), some (.int (iI (k : Int))), e2] [] (HW sc ar tx (j + 118) rl ou (otl tl j n f), q) Q
  | 0, k, sc, ar, f, e2, hm, hX, hT, hmo, hf, hk => by
    have hn := hF.1
    have hm1 := hX.1
    have hm2 := hX.2.1
    have hB := mny_b (nw := nw) (nb := nb) (W := W) (B := B) hF.1.2.1
    have ht3 := t3_r hB
    have hsz : sc 6308 = t3 (mny nw nb W B) := hT.2.2
    have ham := amx_r (rsv nw nb W B) k
    have hoc := oci_r hF (k : Int)
    have hoa := oci_r hF (amx (rsv nw nb W B) k)
    have hv0 := rsv_r hF (k : Int)
    have hv1 := rsv_r hF (amx (rsv nw nb W B) k)
    refine RQ.seg 3 (pc' := 28) (L' := [some (.ref 63), some (.int (iI (k : Int))), e2]) (st' := [.int (iI (sc 6308)), .int (iI (k : Int))]) (g1 := (HW sc ar tx (j + 118) rl ou (otl tl j n f), q)) rfl ?_
    refine RQ.to (L' := [some (.ref 63), some (.int (iI (k : Int))), e2]) (st' := [.int (iI (t3 (mny nw nb W B))), .int (iI (k : Int))]) rfl (by rw [show sc 6308 = t3 (mny nw nb W B) from hsz]) ?_
    refine RQ.if2 (a := (k : Int)) (b := (t3 (mny nw nb W B))) rfl rfl rfl rfl (by omega) (by omega) (fun _ => ?_) (fun (q : ¬ t3 (mny nw nb W B) ≤ (k : Int)) => absurd (show t3 (mny nw nb W B) ≤ (k : Int) from by omega) q)
    refine RQ.seg 3 (pc' := 129) (L' := [some (.ref 63), some (.int (iI (k : Int))), e2]) (st' := []) (g1 := (HW (usc sc 6306 1) ar tx (j + 118) rl ou (otl tl j n f), q)) rfl ?_
    refine RQ.ret rfl rfl ?_
    refine hk (usc sc 6306 1) ar f (Same.us rfl Same.rf) Same.rf ⟨rfl, hT, ?_, by omega, ⟨mk01_0, mk01_0⟩, fun i h0 h1 => ?_⟩
    · show sc 6309 = _; rw [hmo, show (t3 (mny nw nb W B)).toNat = k by omega]
    · rw [hf i h0 (by omega), mko_0]
  | m + 1, k, sc, ar, f, e2, hm, hX, hT, hmo, hf, hk => by
    have hn := hF.1
    have hm1 := hX.1
    have hm2 := hX.2.1
    have hB := mny_b (nw := nw) (nb := nb) (W := W) (B := B) hF.1.2.1
    have ht3 := t3_r hB
    have hsz : sc 6308 = t3 (mny nw nb W B) := hT.2.2
    have ham := amx_r (rsv nw nb W B) k
    have hoc := oci_r hF (k : Int)
    have hoa := oci_r hF (amx (rsv nw nb W B) k)
    have hv0 := rsv_r hF (k : Int)
    have hv1 := rsv_r hF (amx (rsv nw nb W B) k)
    refine RQ.seg 3 (pc' := 28) (L' := [some (.ref 63), some (.int (iI (k : Int))), e2]) (st' := [.int (iI (sc 6308)), .int (iI (k : Int))]) (g1 := (HW sc ar tx (j + 118) rl ou (otl tl j n f), q)) rfl ?_
    refine RQ.to (L' := [some (.ref 63), some (.int (iI (k : Int))), e2]) (st' := [.int (iI (t3 (mny nw nb W B))), .int (iI (k : Int))]) rfl (by rw [show sc 6308 = t3 (mny nw nb W B) from hsz]) ?_
    refine RQ.if2 (a := (k : Int)) (b := (t3 (mny nw nb W B))) rfl rfl rfl rfl (by omega) (by omega) (fun (q : t3 (mny nw nb W B) ≤ (k : Int)) => absurd q (show ¬ t3 (mny nw nb W B) ≤ (k : Int) from by omega)) (fun _ => ?_)
    refine RQ.seg 3 (pc' := 36) (L' := [some (.ref 63), some (.int (iI (k : Int))), e2]) (st' := [.ref (j + 118), .int (iI (k : Int))]) (g1 := (HW sc ar tx (j + 118) rl ou (otl tl j n f), q)) rfl ?_
    refine RQ.alen rfl (HWo_r hj) ?_
    refine RQ.if2 (a := (k : Int)) (b := (n : Int)) rfl rfl rfl rfl (by omega) (by omega) (fun (q : (n : Int) ≤ (k : Int)) => absurd q (show ¬ (n : Int) ≤ (k : Int) from by omega)) (fun _ => ?_)
    refine RQ.seg 11 (pc' := 55) (L' := [some (.ref 63), some (.int (iI (k : Int))), some (.int (iI 0))]) (st' := [.int (iI 0), .int (iI (k : Int)), .ref 63, .int (iI 0), .ref 70]) (g1 := (HW sc ar tx (j + 118) rl ou (otl tl j n f), q)) rfl ?_
    refine RQ.call rfl rfl (CallR.up (d := 1) (x_putIn (d := 0) (sc := sc) (ar := ar) (i := (k : Int)) (b := 0) hF hX hT (by omega) (by omega)) (by omega)) ?_
    refine RQ.iast (z := 0) (v := (PI nw nb W B (k : Int) 0)) (g1 := (HW sc (usc ar 70 (usz (ar 70) 0 (PI nw nb W B (k : Int) 0))) tx (j + 118) rl ou (otl tl j n f), q)) rfl rfl rfl rfl (by omega) (by decide) (HWa_70 rfl) ?_
    refine RQ.seg 11 (pc' := 55) (L' := [some (.ref 63), some (.int (iI (k : Int))), some (.int (iI 1))]) (st' := [.int (iI 1), .int (iI (k : Int)), .ref 63, .int (iI 1), .ref 70]) (g1 := (HW sc (usc ar 70 (usz (ar 70) 0 (PI nw nb W B (k : Int) 0))) tx (j + 118) rl ou (otl tl j n f), q)) rfl ?_
    refine RQ.call rfl rfl (CallR.up (d := 1) (x_putIn (d := 0) (sc := sc) (ar := usc ar 70 (usz (ar 70) 0 (PI nw nb W B (k : Int) 0))) (i := (k : Int)) (b := 1) hF hX hT (by omega) (by omega)) (by omega)) ?_
    refine RQ.iast (z := 1) (v := (PI nw nb W B (k : Int) 1)) (g1 := (HW sc (usc ar 70 (usz (usz (ar 70) 0 (PI nw nb W B (k : Int) 0)) 1 (PI nw nb W B (k : Int) 1))) tx (j + 118) rl ou (otl tl j n f), q)) rfl rfl rfl rfl (by omega) (by decide) (HWa_70 (by funext j; unfold usc; cases hb : Nat.beq j 70 <;> first | rfl | (rw [Nat.eq_of_beq_eq_true hb]; rfl))) ?_
    refine RQ.seg 11 (pc' := 55) (L' := [some (.ref 63), some (.int (iI (k : Int))), some (.int (iI 2))]) (st' := [.int (iI 2), .int (iI (k : Int)), .ref 63, .int (iI 2), .ref 70]) (g1 := (HW sc (usc ar 70 (usz (usz (ar 70) 0 (PI nw nb W B (k : Int) 0)) 1 (PI nw nb W B (k : Int) 1))) tx (j + 118) rl ou (otl tl j n f), q)) rfl ?_
    refine RQ.call rfl rfl (CallR.up (d := 1) (x_putIn (d := 0) (sc := sc) (ar := usc ar 70 (usz (usz (ar 70) 0 (PI nw nb W B (k : Int) 0)) 1 (PI nw nb W B (k : Int) 1))) (i := (k : Int)) (b := 2) hF hX hT (by omega) (by omega)) (by omega)) ?_
    refine RQ.iast (z := 2) (v := (PI nw nb W B (k : Int) 2)) (g1 := (HW sc (usc ar 70 (usz (usz (usz (ar 70) 0 (PI nw nb W B (k : Int) 0)) 1 (PI nw nb W B (k : Int) 1)) 2 (PI nw nb W B (k : Int) 2))) tx (j + 118) rl ou (otl tl j n f), q)) rfl rfl rfl rfl (by omega) (by decide) (HWa_70 (by funext j; unfold usc; cases hb : Nat.beq j 70 <;> first | rfl | (rw [Nat.eq_of_beq_eq_true hb]; rfl))) ?_
    refine RQ.seg 9 (pc' := 73) (L' := [some (.ref 63), some (.int (iI (k : Int))), some (.int (iI 3))]) (st' := [.ref 70, .ref 51]) (g1 := (HW sc (usc ar 70 (usz (usz (usz (ar 70) 0 (PI nw nb W B (k : Int) 0)) 1 (PI nw nb W B (k : Int) 1)) 2 (PI nw nb W B (k : Int) 2))) tx (j + 118) rl ou (otl tl j n f), q)) rfl ?_
    have hmy := PI_ok hF (k : Int)
    refine RQ.callQ rfl rfl ((x_run70 (d := 0) (sc := sc) (ar := usc ar 70 (usz (usz (usz (ar 70) 0 (PI nw nb W B (k : Int) 0)) 1 (PI nw nb W B (k : Int) 1)) 2 (PI nw nb W B (k : Int) 2))) (P := PI nw nb W B (k : Int)) hF hX (fun b h0 h1 => us3_at (P := PI nw nb W B (k : Int)) (by omega)) hmy).up (by omega)) (fun rv g1 hc => ?_)
    obtain ⟨rfl, sc1, ar1, rfl, hp, hs1, ha1⟩ := hc
    have hs2 : Same scF sc sc1 := hs1.w rfl
    have ha2 : Same scA ar ar1 := Same.tr (Same.us rfl Same.rf) (ha1.w rfl)
    have hX1 := hX.sm hs2 ha2
    have hmo1 : sc1 6309 = amx (rsv nw nb W B) k := (hs2 6309 rfl).trans hmo
    refine RQ.seg 5 (pc' := 85) (L' := [some (.ref 63), some (.int (iI (k : Int))), some (.int (iI 3))]) (st' := [.ref 51, .int (iI (k : Int)), .ref (j + 118)]) (g1 := (HW sc1 ar1 tx (j + 118) rl ou (otl tl j n f), q)) rfl ?_
    obtain ⟨y, hS, hJ, hE, hc⟩ := x_outA (K := K) (d := d + 1) (tx := tx) (oc := j + 118) (rl := rl) (ou := ou) (tl := otl tl j n f) (q := q) hF hX1 hmy hp
    rw [show ocv nb W B (PI nw nb W B (k : Int)) (Sx sc1 ar1 y) = oci nw nb W B (k : Int) from ocv_c hF hmy hE] at hc
    refine RQ.call rfl rfl hc ?_
    refine RQ.iast (z := (k : Int)) (v := (oci nw nb W B (k : Int))) (g1 := (HW sc1 ar1 tx (j + 118) rl ou (otl tl j n (usz f (k : Int) (oci nw nb W B (k : Int)))), q)) rfl rfl rfl (HWo_r hj) (by omega) (by omega) (congrArg (·, q) (HWo_s hj _)) ?_
    refine RQ.seg 3 (pc' := 94) (L' := [some (.ref 63), some (.int (iI (k : Int))), some (.int (iI 3))]) (st' := [.int (iI (k : Int)), .ref (j + 118)]) (g1 := (HW sc1 ar1 tx (j + 118) rl ou (otl tl j n (usz f (k : Int) (oci nw nb W B (k : Int)))), q)) rfl ?_
    refine RQ.ialdv (z := (k : Int)) (v := (oci nw nb W B (k : Int))) rfl rfl (HWo_r hj) (by omega) (by omega) (foc_up hf (by omega)) ?_
    refine RQ.call rfl rfl (CallR.up (d := 1) (x_alls (d := 0) (o := oci nw nb W B (k : Int)) (by omega)) (by omega)) ?_
    rw [als_oci hF]
    refine RQ.seg 4 (pc' := 106) (L' := [some (.ref 63), some (.int (iI (k : Int))), some (.int (iI 3))]) (st' := [.int (iI (sc1 6309)), .ref (j + 118), .int (iI (rsv nw nb W B (k : Int)))]) (g1 := (HW sc1 ar1 tx (j + 118) rl ou (otl tl j n (usz f (k : Int) (oci nw nb W B (k : Int)))), q)) rfl ?_
    refine RQ.to (L' := [some (.ref 63), some (.int (iI (k : Int))), some (.int (iI 3))]) (st' := [.int (iI (amx (rsv nw nb W B) k)), .ref (j + 118), .int (iI (rsv nw nb W B (k : Int)))]) rfl (by rw [show sc1 6309 = amx (rsv nw nb W B) k from hmo1]) ?_
    refine RQ.ialdv (z := (amx (rsv nw nb W B) k)) (v := (oci nw nb W B (amx (rsv nw nb W B) k))) rfl rfl (HWo_r hj) (by omega) (by omega) (foc_up hf (by omega)) ?_
    refine RQ.call rfl rfl (CallR.up (d := 1) (x_alls (d := 0) (o := oci nw nb W B (amx (rsv nw nb W B) k)) (by omega)) (by omega)) ?_
    rw [als_oci hF]
    refine RQ.if2 (a := (rsv nw nb W B (k : Int))) (b := (rsv nw nb W B (amx (rsv nw nb W B) k))) rfl rfl rfl rfl (by omega) (by omega) (fun (h3 : rsv nw nb W B (k : Int) ≤ rsv nw nb W B (amx (rsv nw nb W B) k)) => ?_) (fun (h3 : ¬ rsv nw nb W B (k : Int) ≤ rsv nw nb W B (amx (rsv nw nb W B) k)) => ?_)
    · skip
      refine RQ.seg 2 (pc' := 23) (L' := [some (.ref 63), some (.int ((iI (k : Int)) + (iI 1))), some (.int (iI 3))]) (st' := []) (g1 := (HW sc1 ar1 tx (j + 118) rl ou (otl tl j n (usz f (k : Int) (oci nw nb W B (k : Int)))), q)) rfl ?_
      refine RQ.to (L' := [some (.ref 63), some (.int (iI ((k : Int) + 1))), some (.int (iI 3))]) (st' := []) (by simp only [iI_add, iI_sub, iI_mul, iI_neg]) rfl ?_
      have hs3 : Same rkF sc (sc1) := hs2.w rfl
      refine x_fa_l hF hj hn5 m (k + 1) (sc1) ar1 _ _ (by omega) hX1 (show RwT nw nb W B sc1 ar1 from hT.sm hs2 ha2) ?_ (fun i h0 h1 => foc_up hf (by omega)) (fun sc' ar' f' h1 h2 h3 => hk sc' ar' f' (hs3.tr h1) (ha2.tr h2) h3)
      rw [amx]; rw [if_neg (by omega)]; exact hmo1
    · skip
      refine RQ.seg 5 (pc' := 23) (L' := [some (.ref 63), some (.int ((iI (k : Int)) + (iI 1))), some (.int (iI 3))]) (st' := []) (g1 := (HW (usc sc1 6309 (k : Int)) ar1 tx (j + 118) rl ou (otl tl j n (usz f (k : Int) (oci nw nb W B (k : Int)))), q)) rfl ?_
      refine RQ.to (L' := [some (.ref 63), some (.int (iI ((k : Int) + 1))), some (.int (iI 3))]) (st' := []) (by simp only [iI_add, iI_sub, iI_mul, iI_neg]) rfl ?_
      have hs3 : Same rkF sc (usc sc1 6309 (k : Int)) := Same.tr (hs2.w rfl) (Same.us rfl Same.rf)
      refine x_fa_l hF hj hn5 m (k + 1) (usc sc1 6309 (k : Int)) ar1 _ _ (by omega) hX1 (show RwT nw nb W B sc1 ar1 from hT.sm hs2 ha2) ?_ (fun i h0 h1 => foc_up hf (by omega)) (fun sc' ar' f' h1 h2 h3 => hk sc' ar' f' (hs3.tr h1) (ha2.tr h2) h3)
      rw [amx]; rw [if_pos (by omega)]; rfl
theorem x_findAll_k {K : PK} {d : Nat} {sc : Nat → Int} {ar : Nat → Int → Int} {tx : Nat} {rl : Nat → Option Nat} {ou : Nat → Int64} {tl : List PO} {q : Nat × Nat} {j n : Nat} {f : Int → Int} {nw nb : Int} {W B : Int → Int → Int} (hF : FrOK nw nb W B) (hX : FrX (sc 303) (sc 304) (ar 5) (ar 6) (ar 7) (ar 8) (ar 10) (ar 11) (ar 12) nw nb W B) {r e : Int → Int} (hj : j < tl.length) (hR : RwK nw nb W B r e n f sc ar) : CallR K (d + 1) 71 [.ref 63] (HW sc ar tx (j + 118) rl ou (otl tl j n f), q) none (HW sc ar tx (j + 118) rl ou (otl tl j n f), q) := by
  apply CQ.x
  have hn := hF.1
  have hm1 := hX.1
  have hm2 := hX.2.1
  obtain ⟨hk1, hT, hmo, hn5, ⟨hr, he⟩, hf⟩ := id hR
  have hB := mny_b (nw := nw) (nb := nb) (W := W) (B := B) hF.1.2.1
  have ht3 := t3_r hB
  have hsz : sc 6308 = t3 (mny nw nb W B) := hT.2.2
  refine CQ.of (own := 6) (n := 3) (ini := false) (rt := none) (cd := cd71) (by decide +kernel) rfl (by decide +kernel) rfl (Nat.le_of_ble_eq_true rfl) ?_
  refine RQ.seg 2 (pc' := 4) (L' := [some (.ref 63), none, none]) (st' := [.int (iI (sc 6306))]) (g1 := (HW sc ar tx (j + 118) rl ou (otl tl j n f), q)) rfl ?_
  refine RQ.if1 (a := (sc 6306)) rfl rfl rfl (by omega) (fun (q : sc 6306 = 0) => absurd q (show ¬ sc 6306 = 0 from by omega)) (fun _ => ?_)
  refine RQ.ret rfl rfl ?_
  exact ⟨rfl, rfl⟩
theorem x_findAll_n {K : PK} {d : Nat} {sc : Nat → Int} {ar : Nat → Int → Int} {tx oc : Nat} {rl : Nat → Option Nat} {ou : Nat → Int64} {tl : List PO} {q : Nat × Nat} {nw nb : Int} {W B : Int → Int → Int} (hF : FrOK nw nb W B) (hX : FrX (sc 303) (sc 304) (ar 5) (ar 6) (ar 7) (ar 8) (ar 10) (ar 11) (ar 12) nw nb W B) (hnb : 0 < nb) (hk0 : sc 6306 = 0) {n : Nat} (hn5 : n ≤ 15625) (ho : OcS oc tl n) : CQ K (d + 4) 71 [.ref 63] (HW sc ar tx oc rl ou tl, q) (fun r g' => r = none ∧ ∃ sc' ar' j n' f tl' q', g' = (HW sc' ar' tx (j + 118) rl ou (otl tl' j n' f), q') ∧ j < tl'.length ∧ RwK nw nb W B (fun _ => 0) (fun _ => 0) n' f sc' ar' ∧ Same rnF sc sc' ∧ Same rnA ar ar' ∧ TlX oc tl j tl' ∧ ((nd nb ≤ n ∧ n' = n ∧ q' = q) ∨ (n < nd nb ∧ n' = nd nb ∧ q' = (q.1 + 1, q.2 + nd nb)))) := by
  have hn := hF.1
  have hm1 := hX.1
  have hm2 := hX.2.1
  have hB := mny_b (nw := nw) (nb := nb) (W := W) (B := B) hF.1.2.1
  have ht3 := t3_r hB
  refine CQ.of (own := 6) (n := 3) (ini := false) (rt := none) (cd := cd71) (by decide +kernel) rfl (by decide +kernel) rfl (Nat.le_of_ble_eq_true rfl) ?_
  refine RQ.seg 2 (pc' := 4) (L' := [some (.ref 63), none, none]) (st' := [.int (iI (sc 6306))]) (g1 := (HW sc ar tx oc rl ou tl, q)) rfl ?_
  refine RQ.if1 (a := (sc 6306)) rfl rfl rfl (by omega) (fun _ => ?_) (fun (q : ¬ sc 6306 = 0) => absurd (show sc 6306 = 0 from by omega) q)
  refine RQ.seg 1 (pc' := 9) (L' := [some (.ref 63), none, none]) (st' := [.ref 63]) (g1 := (HW sc ar tx oc rl ou tl, q)) rfl ?_
  refine RQ.callQ rfl rfl ((x_listPuts (d := 0) hF hX).up (by omega)) (fun rv g1 hc => ?_)
  obtain ⟨rfl, sc1, ar1, rfl, hs1, ha1, hT⟩ := hc
  have hX1 : FrX (sc1 303) (sc1 304) (ar1 5) (ar1 6) (ar1 7) (ar1 8) (ar1 10) (ar1 11) (ar1 12) nw nb W B := by rw [hs1 303 rfl, hs1 304 rfl, ha1 5 rfl, ha1 6 rfl, ha1 7 rfl, ha1 8 rfl, ha1 10 rfl, ha1 11 rfl, ha1 12 rfl]; exact hX
  refine RQ.seg 1 (pc' := 13) (L' := [some (.ref 63), none, none]) (st' := [.ref 63]) (g1 := (HW sc1 ar1 tx oc rl ou tl, q)) rfl ?_
  refine RQ.callQ rfl rfl ((x_makeRoom (d := 0) (n := n) hF hX1 hnb hn5 ho).up (by omega)) (fun rv g1 hc => ?_)
  rcases hc with ⟨rfl, ⟨hle, rfl⟩ | ⟨hlt, rfl⟩⟩
  · skip
    have hpo : 0 < nd nb := by unfold nd; repeat (split <;> (try omega))
    rcases ho with ⟨_, ho2⟩ | ⟨j, fo, rfl, hj, e0⟩
    · exfalso; omega
    refine RQ.hp (g1 := (HW sc1 ar1 tx (j + 118) rl ou (otl tl j n fo), q)) (congrArg (fun t => (HW sc1 ar1 tx (j + 118) rl ou t, q)) e0) ?_
    refine RQ.seg 5 (pc' := 23) (L' := [some (.ref 63), some (.int (iI 0)), none]) (st' := []) (g1 := (HW (usc sc1 6309 0) ar1 tx (j + 118) rl ou (otl tl j n fo), q)) rfl ?_
    exact x_fa_l hF hj (by have := nd_le hF; omega) (t3 (mny nw nb W B)).toNat 0 (usc sc1 6309 0) ar1 fo _ (by omega) hX1 hT rfl (fun i h0 h1 => absurd h1 (by omega)) (fun sc' ar' f' h1 h2 h3 => ⟨rfl, sc', ar', j, n, f', tl, q, rfl, hj, h3, (Same.tr (hs1.w rfl) (Same.tr (Same.us rfl Same.rf) (h1.w rfl))), (Same.tr (ha1.w rfl) (h2.w rfl)), ⟨Nat.le_refl _, fun k hk hk2 => rfl, Or.inl rfl⟩, Or.inl ⟨hle, rfl, rfl⟩⟩)
  · skip
    refine RQ.hp (g1 := (HW sc1 ar1 tx (tl.length + 118) rl ou (otl (tl ++ [.inl (0, nd nb, .inl (zA fun _ => 0))]) tl.length (nd nb) (fun _ => 0)), q.1 + 1, q.2 + nd nb)) (congrArg (fun t => (HW sc1 ar1 tx (tl.length + 118) rl ou t, q.1 + 1, q.2 + nd nb)) (otl_new tl (nd nb) (fun _ => 0))) ?_
    refine RQ.seg 5 (pc' := 23) (L' := [some (.ref 63), some (.int (iI 0)), none]) (st' := []) (g1 := (HW (usc sc1 6309 0) ar1 tx (tl.length + 118) rl ou (otl (tl ++ [.inl (0, nd nb, .inl (zA fun _ => 0))]) tl.length (nd nb) (fun _ => 0)), q.1 + 1, q.2 + nd nb)) rfl ?_
    refine x_fa_l (tl := tl ++ [.inl (0, nd nb, .inl (zA fun _ => 0))]) (j := tl.length) (n := nd nb) (q := (q.1 + 1, q.2 + nd nb)) hF (by rw [List.length_append, List.length_singleton]; omega) ⟨nd_le hF, nd_r nb⟩ (t3 (mny nw nb W B)).toNat 0 (usc sc1 6309 0) ar1 (fun _ => 0) _ (by omega) hX1 hT rfl (fun i h0 h1 => absurd h1 (by omega)) (fun sc' ar' f' h1 h2 h3 => ?_)
    exact ⟨rfl, sc', ar', tl.length, nd nb, f', _, _, rfl, by rw [List.length_append, List.length_singleton]; omega, h3, (Same.tr (hs1.w rfl) (Same.tr (Same.us rfl Same.rf) (h1.w rfl))), (Same.tr (ha1.w rfl) (h2.w rfl)), ⟨by rw [List.length_append]; omega, fun k hk hk2 => List.getElem?_append_left hk, Or.inr (Nat.le_refl _)⟩, Or.inr ⟨hlt, rfl, rfl⟩⟩
