/-! choice of the reference; fault and text of the reference at a rule, by wip/tools -/
/-! choice of the reference; fault and text of the reference at a rule -/
def RuM (rs : List (List Int)) (rc : Int) (f82 f83 : Int → Int) : Prop := rc = (rs.length : Int) ∧ rs.length ≤ 4 ∧ ∀ k, k < rs.length → f83 (k : Int) = ((rs.getD k []).length : Int) ∧ (∀ i, 0 ≤ i → i < ((rs.getD k []).length : Int) → f82 (160 * (k : Int) + i) = sgb (lat (rs.getD k []) i)) ∧ RdOK (rs.getD k [])
theorem sgb_8 {v : Int} (h1 : -128 ≤ v) (h2 : v ≤ 127) : (iI v).toInt8.toInt32 = iI v := by rw [i8_z, show sgb (v % 256) = v by unfold sgb; split <;> omega]
theorem rlF_r {tp : List Int} (ht : TpOK tp) : -1 ≤ rlF tp ∧ rlF tp ≤ 160 := by
  have h := ((rd_ok (tp := tp) 3000).at 14 0 (a := 0) (by omega)).1
  have ht1 := ht.1
  have h1 : -1 ≤ (rl9 tp).1 ∧ (rl9 tp).1 ≤ (tp.length : Int) := h
  exact ⟨h1.1, by show (rl9 tp).1 ≤ 160; omega⟩
theorem kc3_0 : kc3 0 = 100 := rfl
theorem kc3_1 : kc3 1 = 104 := rfl
theorem kc3_2 : kc3 2 = 99 := rfl
theorem kc3_3 : kc3 3 = 102 := rfl
theorem kc3_4 : kc3 4 = 111 := rfl
theorem kc3_5 : kc3 5 = 107 := rfl
theorem m_wl_l {K : PK} {d : Nat} {sc : Nat → Int} {ar : Nat → Int → Int} {tx oc : Nat} {rl : Nat → Option Nat} {ou : Nat → Int64} {tl : List PO} {q : Nat × Nat} {Q : Option Value → PG → Prop} {P : Int → Int} {b p : Int} (hb : 0 ≤ b ∧ b ≤ 3) (hp : 0 ≤ p ∧ p < 99) (hpu : ∀ c, 0 ≤ c → c < b → ar 96 c = P c ∧ 0 ≤ P c ∧ P c ≤ 99) : ∀ (m n : Nat) (a o : Int) (hm : n + m = b.toNat) (ha : a = cct P m10 (p % 10) n) (ho : o = cct P d10 (p / 10) n) (hk : RQ K (d + 50) 11 false (some .int) cd217 96 [some (.ref 80), some (.int (iI b)), some (.int (iI p)), some (.int (iI (p / 10))), some (.int (iI (p % 10))), some (.int (iI (cct P m10 (p % 10) b.toNat))), some (.int (iI (cct P d10 (p / 10) b.toNat))), some (.int (iI b))] [] (HW sc ar tx oc rl ou tl, q) Q), RQ K (d + 50) 11 false (some .int) cd217 20 [some (.ref 80), some (.int (iI b)), some (.int (iI p)), some (.int (iI (p / 10))), some (.int (iI (p % 10))), some (.int (iI a)), some (.int (iI o)), some (.int (iI (n : Int)))] [] (HW sc ar tx oc rl ou tl, q) Q
  | 0, n, a, o, hm, ha, ho, hk => by
    have h1 := cct_r P m10 (p % 10) n
    have h2 := cct_r P d10 (p / 10) n
    refine RQ.seg 2 (pc' := 23) (L' := [some (.ref 80), some (.int (iI b)), some (.int (iI p)), some (.int (iI (p / 10))), some (.int (iI (p % 10))), some (.int (iI a)), some (.int (iI o)), some (.int (iI (n : Int)))]) (st' := [.int (iI b), .int (iI (n : Int))]) (g1 := (HW sc ar tx oc rl ou tl, q)) rfl ?_
    refine RQ.if2 (a := (n : Int)) (b := b) rfl rfl rfl rfl (by omega) (by omega) (fun _ => ?_) (fun (q : ¬ b ≤ (n : Int)) => absurd (show b ≤ (n : Int) from by omega) q)
    obtain rfl : n = b.toNat := by omega
    rw [ha, ho, show ((b.toNat : Nat) : Int) = b by omega]
    exact hk
  | m + 1, n, a, o, hm, ha, ho, hk => by
    have h1 := cct_r P m10 (p % 10) n
    have h2 := cct_r P d10 (p / 10) n
    obtain ⟨hpc, hp0, hp1⟩ := hpu (n : Int) (by omega) (by omega)
    refine RQ.seg 2 (pc' := 23) (L' := [some (.ref 80), some (.int (iI b)), some (.int (iI p)), some (.int (iI (p / 10))), some (.int (iI (p % 10))), some (.int (iI a)), some (.int (iI o)), some (.int (iI (n : Int)))]) (st' := [.int (iI b), .int (iI (n : Int))]) (g1 := (HW sc ar tx oc rl ou tl, q)) rfl ?_
    refine RQ.if2 (a := (n : Int)) (b := b) rfl rfl rfl rfl (by omega) (by omega) (fun (q : b ≤ (n : Int)) => absurd q (show ¬ b ≤ (n : Int) from by omega)) (fun _ => ?_)
    refine RQ.seg 3 (pc' := 32) (L' := [some (.ref 80), some (.int (iI b)), some (.int (iI p)), some (.int (iI (p / 10))), some (.int (iI (p % 10))), some (.int (iI a)), some (.int (iI o)), some (.int (iI (n : Int)))]) (st' := [.int (iI (n : Int)), .ref 96]) (g1 := (HW sc ar tx oc rl ou tl, q)) rfl ?_
    refine RQ.ialdv (z := (n : Int)) (v := (P (n : Int))) rfl rfl rfl (by omega) (by decide) hpc ?_
    refine RQ.seg 1 (pc' := 35) (L' := [some (.ref 80), some (.int (iI b)), some (.int (iI p)), some (.int (iI (p / 10))), some (.int (iI (p % 10))), some (.int (iI a)), some (.int (iI o)), some (.int (iI (n : Int)))]) (st' := [.int (iI 99), .int (iI (P (n : Int)))]) (g1 := (HW sc ar tx oc rl ou tl, q)) rfl ?_
    refine RQ.if2 (a := (P (n : Int))) (b := 99) rfl rfl rfl rfl (by omega) (by omega) (fun (h2 : P (n : Int) ≠ 99) => ?_) (fun (h2 : ¬ P (n : Int) ≠ 99) => ?_)
    · skip
      refine RQ.seg 4 (pc' := 49) (L' := [some (.ref 80), some (.int (iI b)), some (.int (iI p)), some (.int (iI (p / 10))), some (.int (iI (p % 10))), some (.int (iI a)), some (.int (iI o)), some (.int (iI (n : Int)))]) (st' := [.int (iI (n : Int)), .ref 96, .int (iI a)]) (g1 := (HW sc ar tx oc rl ou tl, q)) rfl ?_
      refine RQ.ialdv (z := (n : Int)) (v := (P (n : Int))) rfl rfl rfl (by omega) (by decide) hpc ?_
      refine RQ.seg 1 (pc' := 52) (L' := [some (.ref 80), some (.int (iI b)), some (.int (iI p)), some (.int (iI (p / 10))), some (.int (iI (p % 10))), some (.int (iI a)), some (.int (iI o)), some (.int (iI (n : Int)))]) (st' := [.int (iI 10), .int (iI (P (n : Int))), .int (iI a)]) (g1 := (HW sc ar tx oc rl ou tl, q)) rfl ?_
      refine RQ.irem (a := (P (n : Int))) (b := 10) rfl rfl rfl (by omega) (by omega) ?_
      refine RQ.seg 1 (pc' := 55) (L' := [some (.ref 80), some (.int (iI b)), some (.int (iI p)), some (.int (iI (p / 10))), some (.int (iI (p % 10))), some (.int (iI a)), some (.int (iI o)), some (.int (iI (n : Int)))]) (st' := [.int (iI (p % 10)), .int (iI ((P (n : Int)) % 10)), .int (iI a)]) (g1 := (HW sc ar tx oc rl ou tl, q)) rfl ?_
      refine RQ.if2 (a := ((P (n : Int)) % 10)) (b := (p % 10)) rfl rfl rfl rfl (by omega) (by omega) (fun (h3 : (P (n : Int)) % 10 ≠ p % 10) => ?_) (fun (h3 : ¬ (P (n : Int)) % 10 ≠ p % 10) => ?_)
      · skip
        refine RQ.seg 7 (pc' := 74) (L' := [some (.ref 80), some (.int (iI b)), some (.int (iI p)), some (.int (iI (p / 10))), some (.int (iI (p % 10))), some (.int ((iI a) + (iI 0))), some (.int (iI o)), some (.int (iI (n : Int)))]) (st' := [.int (iI (n : Int)), .ref 96, .int (iI o)]) (g1 := (HW sc ar tx oc rl ou tl, q)) rfl ?_
        refine RQ.ialdv (z := (n : Int)) (v := (P (n : Int))) rfl rfl rfl (by omega) (by decide) hpc ?_
        refine RQ.seg 1 (pc' := 77) (L' := [some (.ref 80), some (.int (iI b)), some (.int (iI p)), some (.int (iI (p / 10))), some (.int (iI (p % 10))), some (.int ((iI a) + (iI 0))), some (.int (iI o)), some (.int (iI (n : Int)))]) (st' := [.int (iI 10), .int (iI (P (n : Int))), .int (iI o)]) (g1 := (HW sc ar tx oc rl ou tl, q)) rfl ?_
        refine RQ.idiv (a := (P (n : Int))) (b := 10) rfl rfl rfl (by omega) (by omega) ?_
        refine RQ.seg 1 (pc' := 79) (L' := [some (.ref 80), some (.int (iI b)), some (.int (iI p)), some (.int (iI (p / 10))), some (.int (iI (p % 10))), some (.int ((iI a) + (iI 0))), some (.int (iI o)), some (.int (iI (n : Int)))]) (st' := [.int (iI (p / 10)), .int (iI ((P (n : Int)) / 10)), .int (iI o)]) (g1 := (HW sc ar tx oc rl ou tl, q)) rfl ?_
        refine RQ.if2 (a := ((P (n : Int)) / 10)) (b := (p / 10)) rfl rfl rfl rfl (by omega) (by omega) (fun (h4 : (P (n : Int)) / 10 ≠ p / 10) => ?_) (fun (h4 : ¬ (P (n : Int)) / 10 ≠ p / 10) => ?_)
        · skip
          refine RQ.seg 5 (pc' := 20) (L' := [some (.ref 80), some (.int (iI b)), some (.int (iI p)), some (.int (iI (p / 10))), some (.int (iI (p % 10))), some (.int ((iI a) + (iI 0))), some (.int ((iI o) + (iI 0))), some (.int ((iI (n : Int)) + (iI 1)))]) (st' := []) (g1 := (HW sc ar tx oc rl ou tl, q)) rfl ?_
          refine RQ.to (L' := [some (.ref 80), some (.int (iI b)), some (.int (iI p)), some (.int (iI (p / 10))), some (.int (iI (p % 10))), some (.int (iI (a + 0))), some (.int (iI (o + 0))), some (.int (iI ((n : Int) + 1)))]) (st' := []) (by simp only [iI_add, iI_sub, iI_mul, iI_neg]) rfl ?_
          exact m_wl_l hb hp hpu m (n + 1) (a + 0) (o + 0) (by omega) (by show _ = cct P m10 (p % 10) n + (if P (n : Int) ≠ 99 ∧ P (n : Int) % 10 = p % 10 then 1 else 0); first | (rw [if_pos (by omega)]; omega) | (rw [if_neg (by omega)]; omega)) (by show _ = cct P d10 (p / 10) n + (if P (n : Int) ≠ 99 ∧ P (n : Int) / 10 = p / 10 then 1 else 0); first | (rw [if_pos (by omega)]; omega) | (rw [if_neg (by omega)]; omega)) hk
        · skip
          refine RQ.seg 6 (pc' := 20) (L' := [some (.ref 80), some (.int (iI b)), some (.int (iI p)), some (.int (iI (p / 10))), some (.int (iI (p % 10))), some (.int ((iI a) + (iI 0))), some (.int ((iI o) + (iI 1))), some (.int ((iI (n : Int)) + (iI 1)))]) (st' := []) (g1 := (HW sc ar tx oc rl ou tl, q)) rfl ?_
          refine RQ.to (L' := [some (.ref 80), some (.int (iI b)), some (.int (iI p)), some (.int (iI (p / 10))), some (.int (iI (p % 10))), some (.int (iI (a + 0))), some (.int (iI (o + 1))), some (.int (iI ((n : Int) + 1)))]) (st' := []) (by simp only [iI_add, iI_sub, iI_mul, iI_neg]) rfl ?_
          exact m_wl_l hb hp hpu m (n + 1) (a + 0) (o + 1) (by omega) (by show _ = cct P m10 (p % 10) n + (if P (n : Int) ≠ 99 ∧ P (n : Int) % 10 = p % 10 then 1 else 0); first | (rw [if_pos (by omega)]; omega) | (rw [if_neg (by omega)]; omega)) (by show _ = cct P d10 (p / 10) n + (if P (n : Int) ≠ 99 ∧ P (n : Int) / 10 = p / 10 then 1 else 0); first | (rw [if_pos (by omega)]; omega) | (rw [if_neg (by omega)]; omega)) hk
      · skip
        refine RQ.seg 8 (pc' := 74) (L' := [some (.ref 80), some (.int (iI b)), some (.int (iI p)), some (.int (iI (p / 10))), some (.int (iI (p % 10))), some (.int ((iI a) + (iI 1))), some (.int (iI o)), some (.int (iI (n : Int)))]) (st' := [.int (iI (n : Int)), .ref 96, .int (iI o)]) (g1 := (HW sc ar tx oc rl ou tl, q)) rfl ?_
        refine RQ.ialdv (z := (n : Int)) (v := (P (n : Int))) rfl rfl rfl (by omega) (by decide) hpc ?_
        refine RQ.seg 1 (pc' := 77) (L' := [some (.ref 80), some (.int (iI b)), some (.int (iI p)), some (.int (iI (p / 10))), some (.int (iI (p % 10))), some (.int ((iI a) + (iI 1))), some (.int (iI o)), some (.int (iI (n : Int)))]) (st' := [.int (iI 10), .int (iI (P (n : Int))), .int (iI o)]) (g1 := (HW sc ar tx oc rl ou tl, q)) rfl ?_
        refine RQ.idiv (a := (P (n : Int))) (b := 10) rfl rfl rfl (by omega) (by omega) ?_
        refine RQ.seg 1 (pc' := 79) (L' := [some (.ref 80), some (.int (iI b)), some (.int (iI p)), some (.int (iI (p / 10))), some (.int (iI (p % 10))), some (.int ((iI a) + (iI 1))), some (.int (iI o)), some (.int (iI (n : Int)))]) (st' := [.int (iI (p / 10)), .int (iI ((P (n : Int)) / 10)), .int (iI o)]) (g1 := (HW sc ar tx oc rl ou tl, q)) rfl ?_
        refine RQ.if2 (a := ((P (n : Int)) / 10)) (b := (p / 10)) rfl rfl rfl rfl (by omega) (by omega) (fun (h5 : (P (n : Int)) / 10 ≠ p / 10) => ?_) (fun (h5 : ¬ (P (n : Int)) / 10 ≠ p / 10) => ?_)
        · skip
          refine RQ.seg 5 (pc' := 20) (L' := [some (.ref 80), some (.int (iI b)), some (.int (iI p)), some (.int (iI (p / 10))), some (.int (iI (p % 10))), some (.int ((iI a) + (iI 1))), some (.int ((iI o) + (iI 0))), some (.int ((iI (n : Int)) + (iI 1)))]) (st' := []) (g1 := (HW sc ar tx oc rl ou tl, q)) rfl ?_
          refine RQ.to (L' := [some (.ref 80), some (.int (iI b)), some (.int (iI p)), some (.int (iI (p / 10))), some (.int (iI (p % 10))), some (.int (iI (a + 1))), some (.int (iI (o + 0))), some (.int (iI ((n : Int) + 1)))]) (st' := []) (by simp only [iI_add, iI_sub, iI_mul, iI_neg]) rfl ?_
          exact m_wl_l hb hp hpu m (n + 1) (a + 1) (o + 0) (by omega) (by show _ = cct P m10 (p % 10) n + (if P (n : Int) ≠ 99 ∧ P (n : Int) % 10 = p % 10 then 1 else 0); first | (rw [if_pos (by omega)]; omega) | (rw [if_neg (by omega)]; omega)) (by show _ = cct P d10 (p / 10) n + (if P (n : Int) ≠ 99 ∧ P (n : Int) / 10 = p / 10 then 1 else 0); first | (rw [if_pos (by omega)]; omega) | (rw [if_neg (by omega)]; omega)) hk
        · skip
          refine RQ.seg 6 (pc' := 20) (L' := [some (.ref 80), some (.int (iI b)), some (.int (iI p)), some (.int (iI (p / 10))), some (.int (iI (p % 10))), some (.int ((iI a) + (iI 1))), some (.int ((iI o) + (iI 1))), some (.int ((iI (n : Int)) + (iI 1)))]) (st' := []) (g1 := (HW sc ar tx oc rl ou tl, q)) rfl ?_
          refine RQ.to (L' := [some (.ref 80), some (.int (iI b)), some (.int (iI p)), some (.int (iI (p / 10))), some (.int (iI (p % 10))), some (.int (iI (a + 1))), some (.int (iI (o + 1))), some (.int (iI ((n : Int) + 1)))]) (st' := []) (by simp only [iI_add, iI_sub, iI_mul, iI_neg]) rfl ?_
          exact m_wl_l hb hp hpu m (n + 1) (a + 1) (o + 1) (by omega) (by show _ = cct P m10 (p % 10) n + (if P (n : Int) ≠ 99 ∧ P (n : Int) % 10 = p % 10 then 1 else 0); first | (rw [if_pos (by omega)]; omega) | (rw [if_neg (by omega)]; omega)) (by show _ = cct P d10 (p / 10) n + (if P (n : Int) ≠ 99 ∧ P (n : Int) / 10 = p / 10 then 1 else 0); first | (rw [if_pos (by omega)]; omega) | (rw [if_neg (by omega)]; omega)) hk
    · skip
      refine RQ.seg 3 (pc' := 20) (L' := [some (.ref 80), some (.int (iI b)), some (.int (iI p)), some (.int (iI (p / 10))), some (.int (iI (p % 10))), some (.int (iI a)), some (.int (iI o)), some (.int ((iI (n : Int)) + (iI 1)))]) (st' := []) (g1 := (HW sc ar tx oc rl ou tl, q)) rfl ?_
      refine RQ.to (L' := [some (.ref 80), some (.int (iI b)), some (.int (iI p)), some (.int (iI (p / 10))), some (.int (iI (p % 10))), some (.int (iI a)), some (.int (iI o)), some (.int (iI ((n : Int) + 1)))]) (st' := []) (by simp only [iI_add, iI_sub, iI_mul, iI_neg]) rfl ?_
      exact m_wl_l hb hp hpu m (n + 1) (a) (o) (by omega) (by show _ = cct P m10 (p % 10) n + (if P (n : Int) ≠ 99 ∧ P (n : Int) % 10 = p % 10 then 1 else 0); first | (rw [if_pos (by omega)]; omega) | (rw [if_neg (by omega)]; omega)) (by show _ = cct P d10 (p / 10) n + (if P (n : Int) ≠ 99 ∧ P (n : Int) / 10 = p / 10 then 1 else 0); first | (rw [if_pos (by omega)]; omega) | (rw [if_neg (by omega)]; omega)) hk
theorem m_worthOf {K : PK} {d : Nat} {sc : Nat → Int} {ar : Nat → Int → Int} {tx oc : Nat} {rl : Nat → Option Nat} {ou : Nat → Int64} {tl : List PO} {q : Nat × Nat} {nw nb : Int} {W B : Int → Int → Int} (hF : FrOK nw nb W B) (hM : FrM (sc 8024) (sc 8025) (ar 85) (ar 86) nw nb W B) {P : Int → Int} {b p z : Int} (hb : 0 ≤ b ∧ b < nb) (hp : 0 ≤ p ∧ p < 99) (hm : may nw W B b p) (hpu : ∀ c, 0 ≤ c → c < b → ar 96 c = P c ∧ 0 ≤ P c ∧ P c ≤ 99) (hru : ar 91 b = z) (hz : 0 ≤ z ∧ z ≤ 3) {tp : List Int} (hR : RdOK tp) (htl : ar 83 z = (tp.length : Int)) (htx : ∀ i, 0 ≤ i → i < (tp.length : Int) → ar 82 (160 * z + i) = sgb (lat tp i)) : CQ K (d + 51) 217 [.ref 80, .int (iI b), .int (iI p)] (HW sc ar tx oc rl ou tl, q) (fun r g' => r = some (.int (iI (wof W P b (rl9 tp).2.2 p))) ∧ ∃ sc' ar', g' = (HW sc' ar' 82 oc rl ou tl, q) ∧ Same gtF sc sc' ∧ Same [84] ar ar' ∧ LtOK ar') := by
  have hn := hF.1
  have hm1 := hM.1
  have hm2 := hM.2.1
  have ht1 := hR.1.1
  have hw9 : p % 10 < nw ∧ p / 10 < 6 := by unfold may at hm; omega
  have hww := hF.2.1 (p % 10) (by omega) (by omega)
  have h1 := cct_r P m10 (p % 10) b.toNat
  have h2 := cct_r P d10 (p / 10) b.toNat
  refine CQ.of (own := 11) (n := 8) (ini := false) (rt := (some .int)) (cd := cd217) (by decide +kernel) rfl (by decide +kernel) rfl (Nat.le_of_ble_eq_true rfl) ?_
  refine RQ.seg 2 (pc' := 3) (L' := [some (.ref 80), some (.int (iI b)), some (.int (iI p)), none, none, none, none, none]) (st' := [.int (iI 10), .int (iI p)]) (g1 := (HW sc ar tx oc rl ou tl, q)) rfl ?_
  refine RQ.idiv (a := p) (b := 10) rfl rfl rfl (by omega) (by omega) ?_
  refine RQ.seg 3 (pc' := 8) (L' := [some (.ref 80), some (.int (iI b)), some (.int (iI p)), some (.int (iI (p / 10))), none, none, none, none]) (st' := [.int (iI 10), .int (iI p)]) (g1 := (HW sc ar tx oc rl ou tl, q)) rfl ?_
  refine RQ.irem (a := p) (b := 10) rfl rfl rfl (by omega) (by omega) ?_
  refine RQ.seg 7 (pc' := 20) (L' := [some (.ref 80), some (.int (iI b)), some (.int (iI p)), some (.int (iI (p / 10))), some (.int (iI (p % 10))), some (.int (iI 0)), some (.int (iI 0)), some (.int (iI 0))]) (st' := []) (g1 := (HW sc ar tx oc rl ou tl, q)) rfl ?_
  refine m_wl_l (by omega) hp hpu b.toNat 0 0 0 (by omega) rfl rfl ?_
  refine RQ.seg 9 (pc' := 111) (L' := [some (.ref 80), some (.int (iI b)), some (.int (iI p)), some (.int (iI (p / 10))), some (.int (iI (p % 10))), some (.int (iI (cct P m10 (p % 10) b.toNat))), some (.int (iI (cct P d10 (p / 10) b.toNat))), some (.int (iI b))]) (st' := [.int ((iI 4) * (iI (p % 10))), .ref 85, .int (iI (p / 10)), .int (iI 100), .ref 84]) (g1 := (HW sc ar tx oc rl ou tl, q)) rfl ?_
  have hf1 := hF.2.1 (p % 10) (by omega) (by omega)
  refine RQ.ialdv (z := (4 * (p % 10))) (v := (W (p % 10) 0)) rfl (by simp only [iI_add, iI_sub, iI_mul, iI_neg]) rfl (by omega) (by decide) (frm_w0 hM (by omega) (by omega)) ?_
  refine RQ.seg 1 (pc' := 113) (L' := [some (.ref 80), some (.int (iI b)), some (.int (iI p)), some (.int (iI (p / 10))), some (.int (iI (p % 10))), some (.int (iI (cct P m10 (p % 10) b.toNat))), some (.int (iI (cct P d10 (p / 10) b.toNat))), some (.int (iI b))]) (st' := [.int ((iI (p / 10)) - (iI (W (p % 10) 0))), .int (iI 100), .ref 84]) (g1 := (HW sc ar tx oc rl ou tl, q)) rfl ?_
  refine RQ.to (L' := [some (.ref 80), some (.int (iI b)), some (.int (iI p)), some (.int (iI (p / 10))), some (.int (iI (p % 10))), some (.int (iI (cct P m10 (p % 10) b.toNat))), some (.int (iI (cct P d10 (p / 10) b.toNat))), some (.int (iI b))]) (st' := [.int (iI (p / 10 - (W (p % 10) 0))), .int (iI 100), .ref 84]) rfl (by simp only [iI_add, iI_sub, iI_mul, iI_neg]) ?_
  refine RQ.call rfl rfl (CallR.up (d := 1) (x_abs (d := 0) (a := p / 10 - (W (p % 10) 0)) (by omega)) (by omega)) ?_
  refine RQ.iast (z := 100) (v := (if 0 ≤ p / 10 - (W (p % 10) 0) then p / 10 - (W (p % 10) 0) else -(p / 10 - (W (p % 10) 0)))) (g1 := (HW sc (usc ar 84 (usz (ar 84) 100 (if 0 ≤ p / 10 - (W (p % 10) 0) then p / 10 - (W (p % 10) 0) else -(p / 10 - (W (p % 10) 0))))) tx oc rl ou tl, q)) rfl rfl rfl rfl (by omega) (by decide) (HWa_84 rfl) ?_
  refine RQ.seg 10 (pc' := 133) (L' := [some (.ref 80), some (.int (iI b)), some (.int (iI p)), some (.int (iI (p / 10))), some (.int (iI (p % 10))), some (.int (iI (cct P m10 (p % 10) b.toNat))), some (.int (iI (cct P d10 (p / 10) b.toNat))), some (.int (iI b))]) (st' := [.int (((iI 4) * (iI (p % 10))) + (iI 1)), .ref 85, .int (iI 104), .ref 84]) (g1 := (HW sc (usc ar 84 (usz (ar 84) 100 (if 0 ≤ p / 10 - (W (p % 10) 0) then p / 10 - (W (p % 10) 0) else -(p / 10 - (W (p % 10) 0))))) tx oc rl ou tl, q)) rfl ?_
  refine RQ.ialdv (z := (4 * (p % 10) + 1)) (v := (W (p % 10) 1)) rfl (by simp only [iI_add, iI_sub, iI_mul, iI_neg]) rfl (by omega) (by decide) (frm_w1 hM (by omega) (by omega)) ?_
  refine RQ.iast (z := 104) (v := (W (p % 10) 1)) (g1 := (HW sc (usc ar 84 (usz (usz (ar 84) 100 (if 0 ≤ p / 10 - (W (p % 10) 0) then p / 10 - (W (p % 10) 0) else -(p / 10 - (W (p % 10) 0)))) 104 (W (p % 10) 1))) tx oc rl ou tl, q)) rfl rfl rfl rfl (by omega) (by decide) (HWa_84 (by funext j; unfold usc; cases hb : Nat.beq j 84 <;> first | rfl | (rw [Nat.eq_of_beq_eq_true hb]; rfl))) ?_
  refine RQ.seg 10 (pc' := 151) (L' := [some (.ref 80), some (.int (iI b)), some (.int (iI p)), some (.int (iI (p / 10))), some (.int (iI (p % 10))), some (.int (iI (cct P m10 (p % 10) b.toNat))), some (.int (iI (cct P d10 (p / 10) b.toNat))), some (.int (iI b))]) (st' := [.int (((iI 4) * (iI (p % 10))) + (iI 2)), .ref 85, .int (iI 99), .ref 84]) (g1 := (HW sc (usc ar 84 (usz (usz (ar 84) 100 (if 0 ≤ p / 10 - (W (p % 10) 0) then p / 10 - (W (p % 10) 0) else -(p / 10 - (W (p % 10) 0)))) 104 (W (p % 10) 1))) tx oc rl ou tl, q)) rfl ?_
  refine RQ.ialdv (z := (4 * (p % 10) + 2)) (v := (W (p % 10) 2)) rfl (by simp only [iI_add, iI_sub, iI_mul, iI_neg]) rfl (by omega) (by decide) (frm_w2 hM (by omega) (by omega)) ?_
  refine RQ.iast (z := 99) (v := (W (p % 10) 2)) (g1 := (HW sc (usc ar 84 (usz (usz (usz (ar 84) 100 (if 0 ≤ p / 10 - (W (p % 10) 0) then p / 10 - (W (p % 10) 0) else -(p / 10 - (W (p % 10) 0)))) 104 (W (p % 10) 1)) 99 (W (p % 10) 2))) tx oc rl ou tl, q)) rfl rfl rfl rfl (by omega) (by decide) (HWa_84 (by funext j; unfold usc; cases hb : Nat.beq j 84 <;> first | rfl | (rw [Nat.eq_of_beq_eq_true hb]; rfl))) ?_
  refine RQ.seg 10 (pc' := 169) (L' := [some (.ref 80), some (.int (iI b)), some (.int (iI p)), some (.int (iI (p / 10))), some (.int (iI (p % 10))), some (.int (iI (cct P m10 (p % 10) b.toNat))), some (.int (iI (cct P d10 (p / 10) b.toNat))), some (.int (iI b))]) (st' := [.int (((iI 4) * (iI (p % 10))) + (iI 3)), .ref 85, .int (iI 102), .ref 84]) (g1 := (HW sc (usc ar 84 (usz (usz (usz (ar 84) 100 (if 0 ≤ p / 10 - (W (p % 10) 0) then p / 10 - (W (p % 10) 0) else -(p / 10 - (W (p % 10) 0)))) 104 (W (p % 10) 1)) 99 (W (p % 10) 2))) tx oc rl ou tl, q)) rfl ?_
  refine RQ.ialdv (z := (4 * (p % 10) + 3)) (v := (W (p % 10) 3)) rfl (by simp only [iI_add, iI_sub, iI_mul, iI_neg]) rfl (by omega) (by decide) (frm_w3 hM (by omega) (by omega)) ?_
  refine RQ.iast (z := 102) (v := (W (p % 10) 3)) (g1 := (HW sc (usc ar 84 (usz (usz (usz (usz (ar 84) 100 (if 0 ≤ p / 10 - (W (p % 10) 0) then p / 10 - (W (p % 10) 0) else -(p / 10 - (W (p % 10) 0)))) 104 (W (p % 10) 1)) 99 (W (p % 10) 2)) 102 (W (p % 10) 3))) tx oc rl ou tl, q)) rfl rfl rfl rfl (by omega) (by decide) (HWa_84 (by funext j; unfold usc; cases hb : Nat.beq j 84 <;> first | rfl | (rw [Nat.eq_of_beq_eq_true hb]; rfl))) ?_
  refine RQ.seg 4 (pc' := 179) (L' := [some (.ref 80), some (.int (iI b)), some (.int (iI p)), some (.int (iI (p / 10))), some (.int (iI (p % 10))), some (.int (iI (cct P m10 (p % 10) b.toNat))), some (.int (iI (cct P d10 (p / 10) b.toNat))), some (.int (iI b))]) (st' := [.int (iI (cct P m10 (p % 10) b.toNat)), .int (iI 111), .ref 84]) (g1 := (HW sc (usc ar 84 (usz (usz (usz (usz (ar 84) 100 (if 0 ≤ p / 10 - (W (p % 10) 0) then p / 10 - (W (p % 10) 0) else -(p / 10 - (W (p % 10) 0)))) 104 (W (p % 10) 1)) 99 (W (p % 10) 2)) 102 (W (p % 10) 3))) tx oc rl ou tl, q)) rfl ?_
  refine RQ.iast (z := 111) (v := (cct P m10 (p % 10) b.toNat)) (g1 := (HW sc (usc ar 84 (usz (usz (usz (usz (usz (ar 84) 100 (if 0 ≤ p / 10 - (W (p % 10) 0) then p / 10 - (W (p % 10) 0) else -(p / 10 - (W (p % 10) 0)))) 104 (W (p % 10) 1)) 99 (W (p % 10) 2)) 102 (W (p % 10) 3)) 111 (cct P m10 (p % 10) b.toNat))) tx oc rl ou tl, q)) rfl rfl rfl rfl (by omega) (by decide) (HWa_84 (by funext j; unfold usc; cases hb : Nat.beq j 84 <;> first | rfl | (rw [Nat.eq_of_beq_eq_true hb]; rfl))) ?_
  refine RQ.seg 4 (pc' := 188) (L' := [some (.ref 80), some (.int (iI b)), some (.int (iI p)), some (.int (iI (p / 10))), some (.int (iI (p % 10))), some (.int (iI (cct P m10 (p % 10) b.toNat))), some (.int (iI (cct P d10 (p / 10) b.toNat))), some (.int (iI b))]) (st' := [.int (iI (cct P d10 (p / 10) b.toNat)), .int (iI 107), .ref 84]) (g1 := (HW sc (usc ar 84 (usz (usz (usz (usz (usz (ar 84) 100 (if 0 ≤ p / 10 - (W (p % 10) 0) then p / 10 - (W (p % 10) 0) else -(p / 10 - (W (p % 10) 0)))) 104 (W (p % 10) 1)) 99 (W (p % 10) 2)) 102 (W (p % 10) 3)) 111 (cct P m10 (p % 10) b.toNat))) tx oc rl ou tl, q)) rfl ?_
  refine RQ.iast (z := 107) (v := (cct P d10 (p / 10) b.toNat)) (g1 := (HW sc (usc ar 84 (usz (usz (usz (usz (usz (usz (ar 84) 100 (if 0 ≤ p / 10 - (W (p % 10) 0) then p / 10 - (W (p % 10) 0) else -(p / 10 - (W (p % 10) 0)))) 104 (W (p % 10) 1)) 99 (W (p % 10) 2)) 102 (W (p % 10) 3)) 111 (cct P m10 (p % 10) b.toNat)) 107 (cct P d10 (p / 10) b.toNat))) tx oc rl ou tl, q)) rfl rfl rfl rfl (by omega) (by decide) (HWa_84 (by funext j; unfold usc; cases hb : Nat.beq j 84 <;> first | rfl | (rw [Nat.eq_of_beq_eq_true hb]; rfl))) ?_
  refine RQ.seg 7 (pc' := 202) (L' := [some (.ref 80), some (.int (iI b)), some (.int (iI p)), some (.int (iI (p / 10))), some (.int (iI (p % 10))), some (.int (iI (cct P m10 (p % 10) b.toNat))), some (.int (iI (cct P d10 (p / 10) b.toNat))), some (.int (iI b))]) (st' := [.int (iI b), .ref 91, .int (iI 160), .ref 82, .ref 80]) (g1 := (HW sc (usc ar 84 (usz (usz (usz (usz (usz (usz (ar 84) 100 (if 0 ≤ p / 10 - (W (p % 10) 0) then p / 10 - (W (p % 10) 0) else -(p / 10 - (W (p % 10) 0)))) 104 (W (p % 10) 1)) 99 (W (p % 10) 2)) 102 (W (p % 10) 3)) 111 (cct P m10 (p % 10) b.toNat)) 107 (cct P d10 (p / 10) b.toNat))) tx oc rl ou tl, q)) rfl ?_
  refine RQ.ialdv (z := b) (v := z) rfl rfl rfl (by omega) (by decide) hru ?_
  refine RQ.seg 6 (pc' := 213) (L' := [some (.ref 80), some (.int (iI b)), some (.int (iI p)), some (.int (iI (p / 10))), some (.int (iI (p % 10))), some (.int (iI (cct P m10 (p % 10) b.toNat))), some (.int (iI (cct P d10 (p / 10) b.toNat))), some (.int (iI b))]) (st' := [.int (iI b), .ref 91, .ref 83, .int ((iI 160) * (iI z)), .ref 82, .ref 80]) (g1 := (HW sc (usc ar 84 (usz (usz (usz (usz (usz (usz (ar 84) 100 (if 0 ≤ p / 10 - (W (p % 10) 0) then p / 10 - (W (p % 10) 0) else -(p / 10 - (W (p % 10) 0)))) 104 (W (p % 10) 1)) 99 (W (p % 10) 2)) 102 (W (p % 10) 3)) 111 (cct P m10 (p % 10) b.toNat)) 107 (cct P d10 (p / 10) b.toNat))) tx oc rl ou tl, q)) rfl ?_
  refine RQ.ialdv (z := b) (v := z) rfl rfl rfl (by omega) (by decide) hru ?_
  refine RQ.ialdv (z := z) (v := (tp.length : Int)) rfl rfl rfl (by omega) (by decide) htl ?_
  refine RQ.to (L' := [some (.ref 80), some (.int (iI b)), some (.int (iI p)), some (.int (iI (p / 10))), some (.int (iI (p % 10))), some (.int (iI (cct P m10 (p % 10) b.toNat))), some (.int (iI (cct P d10 (p / 10) b.toNat))), some (.int (iI b))]) (st' := [.int (iI (tp.length : Int)), .int (iI (160 * z)), .ref 82, .ref 80]) rfl (by simp only [iI_add, iI_sub, iI_mul, iI_neg]) ?_
  have hf : ∀ k, 0 ≤ k → k < 6 → (usz (usz (usz (usz (usz (usz (ar 84) 100 (if 0 ≤ p / 10 - (W (p % 10) 0) then p / 10 - (W (p % 10) 0) else -(p / 10 - (W (p % 10) 0)))) 104 (W (p % 10) 1)) 99 (W (p % 10) 2)) 102 (W (p % 10) 3)) 111 (cct P m10 (p % 10) b.toNat)) 107 (cct P d10 (p / 10) b.toNat)) (kc3 k) = lts W P b p k := by
    intro k k0 k1
    rcases (show k = 0 ∨ k = 1 ∨ k = 2 ∨ k = 3 ∨ k = 4 ∨ k = 5 by omega) with rfl | rfl | rfl | rfl | rfl | rfl <;> ((first | rw [kc3_0] | rw [kc3_1] | rw [kc3_2] | rw [kc3_3] | rw [kc3_4] | rw [kc3_5]); (repeat (first | rw [usz_s] | rw [usz_n (by omega)])); rfl)
  have hlr := lts_r hF (P := P) hb hp hm
  have hLt9 : LtOK (usc ar 84 (usz (usz (usz (usz (usz (usz (ar 84) 100 (if 0 ≤ p / 10 - (W (p % 10) 0) then p / 10 - (W (p % 10) 0) else -(p / 10 - (W (p % 10) 0)))) 104 (W (p % 10) 1)) 99 (W (p % 10) 2)) 102 (W (p % 10) 3)) 111 (cct P m10 (p % 10) b.toNat)) 107 (cct P d10 (p / 10) b.toNat))) := fun k k0 k1 => by show -1000000 ≤ (usz (usz (usz (usz (usz (usz (ar 84) 100 (if 0 ≤ p / 10 - (W (p % 10) 0) then p / 10 - (W (p % 10) 0) else -(p / 10 - (W (p % 10) 0)))) 104 (W (p % 10) 1)) 99 (W (p % 10) 2)) 102 (W (p % 10) 3)) 111 (cct P m10 (p % 10) b.toNat)) 107 (cct P d10 (p / 10) b.toNat)) (kc3 k) ∧ (usz (usz (usz (usz (usz (usz (ar 84) 100 (if 0 ≤ p / 10 - (W (p % 10) 0) then p / 10 - (W (p % 10) 0) else -(p / 10 - (W (p % 10) 0)))) 104 (W (p % 10) 1)) 99 (W (p % 10) 2)) 102 (W (p % 10) 3)) 111 (cct P m10 (p % 10) b.toNat)) 107 (cct P d10 (p / 10) b.toNat)) (kc3 k) ≤ 1000000; rw [hf k k0 k1]; exact hlr k
  refine RQ.callQ rfl rfl (CQ.up (m_goT82 (d := 0) (tp := tp) (bg := 160 * z) (ar := usc ar 84 (usz (usz (usz (usz (usz (usz (ar 84) 100 (if 0 ≤ p / 10 - (W (p % 10) 0) then p / 10 - (W (p % 10) 0) else -(p / 10 - (W (p % 10) 0)))) 104 (W (p % 10) 1)) 99 (W (p % 10) 2)) 102 (W (p % 10) 3)) 111 (cct P m10 (p % 10) b.toNat)) 107 (cct P d10 (p / 10) b.toNat))) hR.1 hLt9 rfl (by omega) htx) (by omega)) (fun rv9 g9 hc9 => ?_)
  obtain ⟨rfl, sc1, rfl, hs1, he1, hw1⟩ := hc9
  have hw2 : sc1 8014 = wof W P b (rl9 tp).2.2 p := (hw1 hR.2).trans (wo_cg (L := fun k => (usz (usz (usz (usz (usz (usz (ar 84) 100 (if 0 ≤ p / 10 - (W (p % 10) 0) then p / 10 - (W (p % 10) 0) else -(p / 10 - (W (p % 10) 0)))) 104 (W (p % 10) 1)) 99 (W (p % 10) 2)) 102 (W (p % 10) 3)) 111 (cct P m10 (p % 10) b.toNat)) 107 (cct P d10 (p / 10) b.toNat)) (kc3 k)) hf (rl9 tp).2.2 false [] (RdOK.b tp))
  refine RQ.seg 2 (pc' := 222) (L' := [some (.ref 80), some (.int (iI b)), some (.int (iI p)), some (.int (iI (p / 10))), some (.int (iI (p % 10))), some (.int (iI (cct P m10 (p % 10) b.toNat))), some (.int (iI (cct P d10 (p / 10) b.toNat))), some (.int (iI b))]) (st' := [.int (iI (sc1 8014))]) (g1 := (HW sc1 (usc ar 84 (usz (usz (usz (usz (usz (usz (ar 84) 100 (if 0 ≤ p / 10 - (W (p % 10) 0) then p / 10 - (W (p % 10) 0) else -(p / 10 - (W (p % 10) 0)))) 104 (W (p % 10) 1)) 99 (W (p % 10) 2)) 102 (W (p % 10) 3)) 111 (cct P m10 (p % 10) b.toNat)) 107 (cct P d10 (p / 10) b.toNat))) 82 oc rl ou tl, q)) rfl ?_
  refine RQ.ret rfl rfl ?_
  exact ⟨by rw [hw2], _, _, rfl, hs1, Same.us rfl Same.rf, hLt9⟩
theorem m_ci_l {K : PK} {d : Nat} {oc : Nat} {rl : Nat → Option Nat} {ou : Nat → Int64} {tl : List PO} {q : Nat × Nat} {Q : Option Value → PG → Prop} {nw nb : Int} {W B : Int → Int → Int} (hF : FrOK nw nb W B) {P : Int → Int} {b z row : Int} (hb : 0 ≤ b ∧ b < nb) (hz : 0 ≤ z ∧ z ≤ 3) {tp : List Int} (hR : RdOK tp) : ∀ (m n : Nat) (sc : Nat → Int) (ar : Nat → Int → Int) (tx : Nat) (p v : Int) (e6 : Option Value) (hm : n + m + 1 = (pls nw W B b).length) (hM : FrM (sc 8024) (sc 8025) (ar 85) (ar 86) nw nb W B) (hP : PMx nw nb W B (ar 94) (ar 95)) (hpu : ∀ c, 0 ≤ c → c < b → ar 96 c = P c ∧ 0 ≤ P c ∧ P c ≤ 99) (hru : ar 91 b = z) (htl : ar 83 z = (tp.length : Int)) (htx : ∀ i, 0 ≤ i → i < (tp.length : Int) → ar 82 (160 * z + i) = sgb (lat tp i)) (hi : (p, v) = cst (wof W P b (rl9 tp).2.2) ((pls nw W B b).take n)) (rp : (0 ≤ p ∧ p ≤ 99) ∧ (0 ≤ v ∧ v ≤ 1000000)) (hLt : LtOK ar) (hk : ∀ sc' ar' tx' v' k' e', Same gtF sc sc' → Same [84] ar ar' → LtOK ar' → RQ K (d + 51) 11 false (some .int) cd218 110 [some (.ref 80), some (.int (iI row)), some (.int (iI b)), some (.int (iI ((cst (wof W P b (rl9 tp).2.2) (fl (mb nw W B b) 99)).1))), some (.int (iI v')), some (.int (iI k')), e'] [] (HW sc' ar' tx' oc rl ou tl, q) Q), RQ K (d + 51) 11 false (some .int) cd218 35 [some (.ref 80), some (.int (iI row)), some (.int (iI b)), some (.int (iI p)), some (.int (iI v)), some (.int (iI (n : Int))), e6] [] (HW sc ar tx oc rl ou tl, q) Q
  | 0, n, sc, ar, tx, p, v, e6, hm, hM, hP, hpu, hru, htl, htx, hi, rp, hLt, hk => by
    have hn := hF.1
    have hm1 := hM.1
    have hm2 := hM.2.1
    have h25 := pls_25 (W := W) (B := B) (b := b) hF.1.2.1
    refine RQ.seg 4 (pc' := 42) (L' := [some (.ref 80), some (.int (iI row)), some (.int (iI b)), some (.int (iI p)), some (.int (iI v)), some (.int (iI (n : Int))), e6]) (st' := [.int (iI b), .ref 95, .int (iI (n : Int))]) (g1 := (HW sc ar tx oc rl ou tl, q)) rfl ?_
    refine RQ.ialdv (z := b) (v := ((pls nw W B b).length : Int)) rfl rfl rfl (by omega) (by decide) (hP b (by omega) (by omega)).1 ?_
    refine RQ.seg 2 (pc' := 45) (L' := [some (.ref 80), some (.int (iI row)), some (.int (iI b)), some (.int (iI p)), some (.int (iI v)), some (.int (iI (n : Int))), e6]) (st' := [.int ((iI ((pls nw W B b).length : Int)) - (iI 1)), .int (iI (n : Int))]) (g1 := (HW sc ar tx oc rl ou tl, q)) rfl ?_
    refine RQ.if2 (a := (n : Int)) (b := (((pls nw W B b).length : Int) - 1)) rfl rfl rfl (by simp only [iI_add, iI_sub, iI_mul, iI_neg]) (by omega) (by omega) (fun _ => ?_) (fun (q : ¬ ((pls nw W B b).length : Int) - 1 ≤ (n : Int)) => absurd (show ((pls nw W B b).length : Int) - 1 ≤ (n : Int) from by omega) q)
    have et : (pls nw W B b).take n = fl (mb nw W B b) 99 := by rw [pls_eq] at hm ⊢; rw [List.length_append, List.length_singleton] at hm; rw [List.take_append_of_le_length (by omega), List.take_of_length_le (by omega)]
    rw [et] at hi
    have e2 := hk sc ar tx v (n : Int) e6 Same.rf Same.rf hLt
    rw [← hi] at e2
    exact e2
  | m + 1, n, sc, ar, tx, p, v, e6, hm, hM, hP, hpu, hru, htl, htx, hi, rp, hLt, hk => by
    have hn := hF.1
    have hm1 := hM.1
    have hm2 := hM.2.1
    have h25 := pls_25 (W := W) (B := B) (b := b) hF.1.2.1
    have hmay := pls_mem.mp (lat_mem (l := pls nw W B b) (k := (n : Int)) (by omega))
    have rz := pls_lt (W := W) (B := B) (b := b) (nw := nw) (n := n) (by omega)
    refine RQ.seg 4 (pc' := 42) (L' := [some (.ref 80), some (.int (iI row)), some (.int (iI b)), some (.int (iI p)), some (.int (iI v)), some (.int (iI (n : Int))), e6]) (st' := [.int (iI b), .ref 95, .int (iI (n : Int))]) (g1 := (HW sc ar tx oc rl ou tl, q)) rfl ?_
    refine RQ.ialdv (z := b) (v := ((pls nw W B b).length : Int)) rfl rfl rfl (by omega) (by decide) (hP b (by omega) (by omega)).1 ?_
    refine RQ.seg 2 (pc' := 45) (L' := [some (.ref 80), some (.int (iI row)), some (.int (iI b)), some (.int (iI p)), some (.int (iI v)), some (.int (iI (n : Int))), e6]) (st' := [.int ((iI ((pls nw W B b).length : Int)) - (iI 1)), .int (iI (n : Int))]) (g1 := (HW sc ar tx oc rl ou tl, q)) rfl ?_
    refine RQ.if2 (a := (n : Int)) (b := (((pls nw W B b).length : Int) - 1)) rfl rfl rfl (by simp only [iI_add, iI_sub, iI_mul, iI_neg]) (by omega) (by omega) (fun (q : ((pls nw W B b).length : Int) - 1 ≤ (n : Int)) => absurd q (show ¬ ((pls nw W B b).length : Int) - 1 ≤ (n : Int) from by omega)) (fun _ => ?_)
    refine RQ.seg 3 (pc' := 53) (L' := [some (.ref 80), some (.int (iI row)), some (.int (iI b)), some (.int (iI p)), some (.int (iI v)), some (.int (iI (n : Int))), e6]) (st' := [.int (iI b), .ref 91]) (g1 := (HW sc ar tx oc rl ou tl, q)) rfl ?_
    refine RQ.ialdv (z := b) (v := z) rfl rfl rfl (by omega) (by decide) hru ?_
    refine RQ.seg 1 (pc' := 55) (L' := [some (.ref 80), some (.int (iI row)), some (.int (iI b)), some (.int (iI p)), some (.int (iI v)), some (.int (iI (n : Int))), e6]) (st' := [.int (iI (-1)), .int (iI z)]) (g1 := (HW sc ar tx oc rl ou tl, q)) rfl ?_
    refine RQ.if2 (a := z) (b := (-1)) rfl rfl rfl rfl (by omega) (by omega) (fun (q : z = (-1)) => absurd q (show ¬ z = (-1) from by omega)) (fun _ => ?_)
    refine RQ.seg 9 (pc' := 71) (L' := [some (.ref 80), some (.int (iI row)), some (.int (iI b)), some (.int (iI p)), some (.int (iI v)), some (.int (iI (n : Int))), e6]) (st' := [.int (((iI 25) * (iI b)) + (iI (n : Int))), .ref 94, .int (iI b), .ref 80]) (g1 := (HW sc ar tx oc rl ou tl, q)) rfl ?_
    refine RQ.ialdv (z := (25 * b + (n : Int))) (v := (lat (pls nw W B b) (n : Int))) rfl (by simp only [iI_add, iI_sub, iI_mul, iI_neg]) rfl (by omega) (by decide) ((hP b (by omega) (by omega)).2 (n : Int) (by omega) (by omega)) ?_
    refine RQ.callQ rfl rfl (CQ.up (m_worthOf (d := 0) (sc := sc) (ar := ar) hF hM hb (p := lat (pls nw W B b) (n : Int)) (by omega) hmay hpu hru hz hR htl htx) (by omega)) (fun rv9 g9 hc9 => ?_)
    obtain ⟨rfl, sc1, ar1, rfl, hs1, ha1, hLt1⟩ := hc9
    have hlr := lts_r hF (P := P) hb (p := lat (pls nw W B b) (n : Int)) (by omega) hmay
    have hwr : -1000000 ≤ wof W P b (rl9 tp).2.2 (lat (pls nw W B b) (n : Int)) ∧ wof W P b (rl9 tp).2.2 (lat (pls nw W B b) (n : Int)) ≤ 1000000 := wo_r (fun k _ _ => hlr k) (rl9 tp).2.2 false [] [] (RdOK.b tp) hR.w (fun _ => trivial) (fun _ => rfl)
    refine RQ.seg 3 (pc' := 81) (L' := [some (.ref 80), some (.int (iI row)), some (.int (iI b)), some (.int (iI p)), some (.int (iI v)), some (.int (iI (n : Int))), some (.int (iI (wof W P b (rl9 tp).2.2 (lat (pls nw W B b) (n : Int)))))]) (st' := [.int (iI v), .int (iI (wof W P b (rl9 tp).2.2 (lat (pls nw W B b) (n : Int))))]) (g1 := (HW sc1 ar1 82 oc rl ou tl, q)) rfl ?_
    refine RQ.if2 (a := (wof W P b (rl9 tp).2.2 (lat (pls nw W B b) (n : Int)))) (b := v) rfl rfl rfl rfl (by omega) (by omega) (fun (h3 : v < wof W P b (rl9 tp).2.2 (lat (pls nw W B b) (n : Int))) => ?_) (fun (h3 : ¬ v < wof W P b (rl9 tp).2.2 (lat (pls nw W B b) (n : Int))) => ?_)
    · skip
      refine RQ.seg 7 (pc' := 98) (L' := [some (.ref 80), some (.int (iI row)), some (.int (iI b)), some (.int (iI p)), some (.int (iI v)), some (.int (iI (n : Int))), some (.int (iI (wof W P b (rl9 tp).2.2 (lat (pls nw W B b) (n : Int)))))]) (st' := [.int (((iI 25) * (iI b)) + (iI (n : Int))), .ref 94]) (g1 := (HW sc1 ar1 82 oc rl ou tl, q)) rfl ?_
      refine RQ.ialdv (z := (25 * b + (n : Int))) (v := (lat (pls nw W B b) (n : Int))) rfl (by simp only [iI_add, iI_sub, iI_mul, iI_neg]) rfl (by omega) (by decide) ((congrFun (ha1 94 rfl) _).trans ((hP b (by omega) (by omega)).2 (n : Int) (by omega) (by omega))) ?_
      refine RQ.seg 5 (pc' := 35) (L' := [some (.ref 80), some (.int (iI row)), some (.int (iI b)), some (.int (iI (lat (pls nw W B b) (n : Int)))), some (.int (iI (wof W P b (rl9 tp).2.2 (lat (pls nw W B b) (n : Int))))), some (.int ((iI (n : Int)) + (iI 1))), some (.int (iI (wof W P b (rl9 tp).2.2 (lat (pls nw W B b) (n : Int)))))]) (st' := []) (g1 := (HW sc1 ar1 82 oc rl ou tl, q)) rfl ?_
      refine RQ.to (L' := [some (.ref 80), some (.int (iI row)), some (.int (iI b)), some (.int (iI (lat (pls nw W B b) (n : Int)))), some (.int (iI (wof W P b (rl9 tp).2.2 (lat (pls nw W B b) (n : Int))))), some (.int (iI ((n : Int) + 1))), some (.int (iI (wof W P b (rl9 tp).2.2 (lat (pls nw W B b) (n : Int)))))]) (st' := []) (by simp only [iI_add, iI_sub, iI_mul, iI_neg]) rfl ?_
      refine m_ci_l hF hb hz hR m (n + 1) sc1 ar1 82 (lat (pls nw W B b) (n : Int)) (wof W P b (rl9 tp).2.2 (lat (pls nw W B b) (n : Int))) _ (by omega) ?_ ?_ ?_ ?_ ?_ ?_ ?_ (by omega) hLt1 (fun sc' ar' tx' v' k' e' h1 h2 => hk sc' ar' tx' v' k' e' (hs1.tr h1) (ha1.tr h2))
      · rw [hs1 8024 rfl, hs1 8025 rfl, ha1 85 rfl, ha1 86 rfl]; exact hM
      · rw [ha1 94 rfl, ha1 95 rfl]; exact hP
      · rw [ha1 96 rfl]; exact hpu
      · rw [ha1 91 rfl]; exact hru
      · rw [ha1 83 rfl]; exact htl
      · rw [ha1 82 rfl]; exact htx
      · rw [cst_take _ _ n (by omega), ← hi]; show _ = (if v < wof W P b (rl9 tp).2.2 (lat (pls nw W B b) (n : Int)) then _ else _); first | rw [if_pos (by omega)] | rw [if_neg (by omega)]
    · skip
      refine RQ.seg 3 (pc' := 35) (L' := [some (.ref 80), some (.int (iI row)), some (.int (iI b)), some (.int (iI p)), some (.int (iI v)), some (.int ((iI (n : Int)) + (iI 1))), some (.int (iI (wof W P b (rl9 tp).2.2 (lat (pls nw W B b) (n : Int)))))]) (st' := []) (g1 := (HW sc1 ar1 82 oc rl ou tl, q)) rfl ?_
      refine RQ.to (L' := [some (.ref 80), some (.int (iI row)), some (.int (iI b)), some (.int (iI p)), some (.int (iI v)), some (.int (iI ((n : Int) + 1))), some (.int (iI (wof W P b (rl9 tp).2.2 (lat (pls nw W B b) (n : Int)))))]) (st' := []) (by simp only [iI_add, iI_sub, iI_mul, iI_neg]) rfl ?_
      refine m_ci_l hF hb hz hR m (n + 1) sc1 ar1 82 p v _ (by omega) ?_ ?_ ?_ ?_ ?_ ?_ ?_ (by omega) hLt1 (fun sc' ar' tx' v' k' e' h1 h2 => hk sc' ar' tx' v' k' e' (hs1.tr h1) (ha1.tr h2))
      · rw [hs1 8024 rfl, hs1 8025 rfl, ha1 85 rfl, ha1 86 rfl]; exact hM
      · rw [ha1 94 rfl, ha1 95 rfl]; exact hP
      · rw [ha1 96 rfl]; exact hpu
      · rw [ha1 91 rfl]; exact hru
      · rw [ha1 83 rfl]; exact htl
      · rw [ha1 82 rfl]; exact htx
      · rw [cst_take _ _ n (by omega), ← hi]; show _ = (if v < wof W P b (rl9 tp).2.2 (lat (pls nw W B b) (n : Int)) then _ else _); first | rw [if_pos (by omega)] | rw [if_neg (by omega)]
theorem m_co_l {K : PK} {d : Nat} {oc : Nat} {rl : Nat → Option Nat} {ou : Nat → Int64} {tl : List PO} {q : Nat × Nat} {Q : Option Value → PG → Prop} {nw nb : Int} {W B : Int → Int → Int} (hF : FrOK nw nb W B) {rs : List (List Int)} {ru : Int → Int} : ∀ (m n : Nat) (sc : Nat → Int) (ar : Nat → Int → Int) (tx : Nat) (e3 e4 e5 e6 : Option Value) (hm : n + m = nb.toNat) (hM : FrM (sc 8024) (sc 8025) (ar 85) (ar 86) nw nb W B) (hP : PMx nw nb W B (ar 94) (ar 95)) (hru : ∀ b, 0 ≤ b → b < nb → ar 91 b = ru b ∧ -1 ≤ ru b ∧ ru b < (rs.length : Int)) (hJ : RuM rs (sc 8007) (ar 82) (ar 83)) (hpu : ∀ c, 0 ≤ c → c < (n : Int) → ar 96 c = chP nw W B rs ru n c) (hLt : LtOK ar) (hk : ∀ sc' ar' tx', Same gtF sc sc' → Same [84, 96] ar ar' → LtOK ar' → Q (some (.int (iI (chR nw W B rs ru nb.toNat)))) (HW sc' ar' tx' oc rl ou tl, q)), RQ K (d + 51) 11 false (some .int) cd218 18 [some (.ref 80), some (.int (iI (chR nw W B rs ru n))), some (.int (iI (n : Int))), e3, e4, e5, e6] [] (HW sc ar tx oc rl ou tl, q) Q
  | 0, n, sc, ar, tx, e3, e4, e5, e6, hm, hM, hP, hru, hJ, hpu, hLt, hk => by
    have hn := hF.1
    have hm1 := hM.1
    have hm2 := hM.2.1
    have hcr := chR_r (nw := nw) (W := W) (B := B) (rs := rs) (ru := ru) n
    refine RQ.seg 3 (pc' := 23) (L' := [some (.ref 80), some (.int (iI (chR nw W B rs ru n))), some (.int (iI (n : Int))), e3, e4, e5, e6]) (st' := [.int (iI (sc 8025)), .int (iI (n : Int))]) (g1 := (HW sc ar tx oc rl ou tl, q)) rfl ?_
    refine RQ.if2 (a := (n : Int)) (b := (sc 8025)) rfl rfl rfl rfl (by omega) (by omega) (fun _ => ?_) (fun (q : ¬ sc 8025 ≤ (n : Int)) => absurd (show sc 8025 ≤ (n : Int) from by omega) q)
    refine RQ.seg 1 (pc' := 131) (L' := [some (.ref 80), some (.int (iI (chR nw W B rs ru n))), some (.int (iI (n : Int))), e3, e4, e5, e6]) (st' := [.int (iI (chR nw W B rs ru n))]) (g1 := (HW sc ar tx oc rl ou tl, q)) rfl ?_
    refine RQ.ret rfl rfl ?_
    obtain rfl : n = nb.toNat := by omega
    exact hk sc ar tx Same.rf Same.rf hLt
  | m + 1, n, sc, ar, tx, e3, e4, e5, e6, hm, hM, hP, hru, hJ, hpu, hLt, hk => by
    have hn := hF.1
    have hm1 := hM.1
    have hm2 := hM.2.1
    have hcr := chR_r (nw := nw) (W := W) (B := B) (rs := rs) (ru := ru) n
    have hzr := chz_r (nw := nw) (W := W) (B := B) (rs := rs) (ru := ru) (P := chP nw W B rs ru n) (b := (n : Int))
    obtain ⟨r1, r2, r3⟩ := hru (n : Int) (by omega) (by omega)
    have h54 := hJ.2.1
    have h25 := pls_25 (W := W) (B := B) (b := (n : Int)) hF.1.2.1
    have hpl : 1 ≤ (pls nw W B (n : Int)).length := by rw [pls_eq, List.length_append, List.length_singleton]; omega
    have hpu2 : ∀ c, 0 ≤ c → c < (n : Int) → ar 96 c = chP nw W B rs ru n c ∧ 0 ≤ chP nw W B rs ru n c ∧ chP nw W B rs ru n c ≤ 99 := fun c c0 c1 => ⟨hpu c c0 c1, chP_r n c⟩
    refine RQ.seg 3 (pc' := 23) (L' := [some (.ref 80), some (.int (iI (chR nw W B rs ru n))), some (.int (iI (n : Int))), e3, e4, e5, e6]) (st' := [.int (iI (sc 8025)), .int (iI (n : Int))]) (g1 := (HW sc ar tx oc rl ou tl, q)) rfl ?_
    refine RQ.if2 (a := (n : Int)) (b := (sc 8025)) rfl rfl rfl rfl (by omega) (by omega) (fun (q : sc 8025 ≤ (n : Int)) => absurd q (show ¬ sc 8025 ≤ (n : Int) from by omega)) (fun _ => ?_)
    refine RQ.seg 6 (pc' := 35) (L' := [some (.ref 80), some (.int (iI (chR nw W B rs ru n))), some (.int (iI (n : Int))), some (.int (iI 99)), some (.int (iI 0)), some (.int (iI 0)), e6]) (st' := []) (g1 := (HW sc ar tx oc rl ou tl, q)) rfl ?_
    rcases Decidable.em (0 ≤ ru (n : Int)) with hc | hc
    · obtain ⟨j1, j2, j3⟩ := hJ.2.2 (ru (n : Int)).toNat (by omega)
      rw [show (((ru (n : Int)).toNat : Nat) : Int) = ru (n : Int) by omega] at j1 j2
      refine m_ci_l hF (by omega) (by omega) j3 ((pls nw W B (n : Int)).length - 1) 0 sc ar tx 99 0 _ (by omega) hM hP (P := chP nw W B rs ru n) hpu2 r1 j1 j2 rfl (by omega) hLt (fun sc1 ar1 tx1 v1 k1 e1 hs1 ha1 hLt1 => ?_)
      rw [show (cst (wof W (chP nw W B rs ru n) (n : Int) (rl9 (rs.getD (ru (n : Int)).toNat [])).2.2) (fl (mb nw W B (n : Int)) 99)).1 = chz nw W B rs ru (chP nw W B rs ru n) (n : Int) from (if_pos ⟨hc, r3⟩).symm]
      refine RQ.seg 4 (pc' := 116) (L' := [some (.ref 80), some (.int (iI (chR nw W B rs ru n))), some (.int (iI (n : Int))), some (.int (iI (chz nw W B rs ru (chP nw W B rs ru n) (n : Int)))), some (.int (iI v1)), some (.int (iI k1)), e1]) (st' := [.int (iI (chz nw W B rs ru (chP nw W B rs ru n) (n : Int))), .int (iI (n : Int)), .ref 96]) (g1 := (HW sc1 ar1 tx1 oc rl ou tl, q)) rfl ?_
      refine RQ.iast (z := (n : Int)) (v := (chz nw W B rs ru (chP nw W B rs ru n) (n : Int))) (g1 := (HW sc1 (usc ar1 96 (usz (ar1 96) (n : Int) (chz nw W B rs ru (chP nw W B rs ru n) (n : Int)))) tx1 oc rl ou tl, q)) rfl rfl rfl rfl (by omega) (by decide) (HWa_96 rfl) ?_
      refine RQ.seg 8 (pc' := 18) (L' := [some (.ref 80), some (.int (((iI 100) * (iI (chR nw W B rs ru n))) + (iI (chz nw W B rs ru (chP nw W B rs ru n) (n : Int))))), some (.int ((iI (n : Int)) + (iI 1))), some (.int (iI (chz nw W B rs ru (chP nw W B rs ru n) (n : Int)))), some (.int (iI v1)), some (.int (iI k1)), e1]) (st' := []) (g1 := (HW sc1 (usc ar1 96 (usz (ar1 96) (n : Int) (chz nw W B rs ru (chP nw W B rs ru n) (n : Int)))) tx1 oc rl ou tl, q)) rfl ?_
      refine RQ.to (L' := [some (.ref 80), some (.int (iI (100 * (chR nw W B rs ru n) + (chz nw W B rs ru (chP nw W B rs ru n) (n : Int))))), some (.int (iI ((n : Int) + 1))), some (.int (iI (chz nw W B rs ru (chP nw W B rs ru n) (n : Int)))), some (.int (iI v1)), some (.int (iI k1)), e1]) (st' := []) (by simp only [iI_add, iI_sub, iI_mul, iI_neg]) rfl ?_
      rw [show 100 * chR nw W B rs ru n + chz nw W B rs ru (chP nw W B rs ru n) (n : Int) = chR nw W B rs ru (n + 1) from by show _ = chR nw W B rs ru n * 100 + chz nw W B rs ru (chP nw W B rs ru n) (n : Int); omega]
      refine m_co_l hF m (n + 1) sc1 (usc ar1 96 (usz (ar1 96) (n : Int) (chz nw W B rs ru (chP nw W B rs ru n) (n : Int)))) tx1 _ _ _ _ (by omega) ?_ ?_ ?_ ?_ ?_ hLt1 (fun sc' ar' tx' h1 h2 => hk sc' ar' tx' (Same.tr hs1 h1) (Same.tr (Same.tr (Same.w (l' := [84, 96]) rfl ha1) (Same.us rfl Same.rf)) h2))
      · show FrM (sc1 8024) (sc1 8025) (ar1 85) (ar1 86) nw nb W B; rw [hs1 8024 rfl, hs1 8025 rfl, ha1 85 rfl, ha1 86 rfl]; exact hM
      · show PMx nw nb W B (ar1 94) (ar1 95); rw [ha1 94 rfl, ha1 95 rfl]; exact hP
      · intro b b0 b1; show ar1 91 b = ru b ∧ _; rw [ha1 91 rfl]; exact hru b b0 b1
      · show RuM rs (sc1 8007) (ar1 82) (ar1 83); rw [hs1 8007 rfl, ha1 82 rfl, ha1 83 rfl]; exact hJ
      · intro c c0 c1
        show usz (ar1 96) (n : Int) (chz nw W B rs ru (chP nw W B rs ru n) (n : Int)) c = usz (chP nw W B rs ru n) (n : Int) (chz nw W B rs ru (chP nw W B rs ru n) (n : Int)) c
        by_cases e : c = (n : Int)
        · rw [e, usz_s, usz_s]
        · rw [usz_n e, usz_n e, ha1 96 rfl]; exact hpu c c0 (by omega)
    · have hz9 : ru (n : Int) = -1 := by omega
      have hz8 : chz nw W B rs ru (chP nw W B rs ru n) (n : Int) = 99 := if_neg (by omega)
      refine RQ.seg 4 (pc' := 42) (L' := [some (.ref 80), some (.int (iI (chR nw W B rs ru n))), some (.int (iI (n : Int))), some (.int (iI 99)), some (.int (iI 0)), some (.int (iI 0)), e6]) (st' := [.int (iI (n : Int)), .ref 95, .int (iI 0)]) (g1 := (HW sc ar tx oc rl ou tl, q)) rfl ?_
      refine RQ.ialdv (z := (n : Int)) (v := ((pls nw W B (n : Int)).length : Int)) rfl rfl rfl (by omega) (by decide) (hP (n : Int) (by omega) (by omega)).1 ?_
      refine RQ.seg 2 (pc' := 45) (L' := [some (.ref 80), some (.int (iI (chR nw W B rs ru n))), some (.int (iI (n : Int))), some (.int (iI 99)), some (.int (iI 0)), some (.int (iI 0)), e6]) (st' := [.int ((iI ((pls nw W B (n : Int)).length : Int)) - (iI 1)), .int (iI 0)]) (g1 := (HW sc ar tx oc rl ou tl, q)) rfl ?_
      refine RQ.if2 (a := 0) (b := (((pls nw W B (n : Int)).length : Int) - 1)) rfl rfl rfl (by simp only [iI_add, iI_sub, iI_mul, iI_neg]) (by omega) (by omega) (fun (h2 : ((pls nw W B (n : Int)).length : Int) - 1 ≤ 0) => ?_) (fun (h2 : ¬ ((pls nw W B (n : Int)).length : Int) - 1 ≤ 0) => ?_)
      · skip
        rw [← hz8]
        refine RQ.seg 4 (pc' := 116) (L' := [some (.ref 80), some (.int (iI (chR nw W B rs ru n))), some (.int (iI (n : Int))), some (.int (iI (chz nw W B rs ru (chP nw W B rs ru n) (n : Int)))), some (.int (iI 0)), some (.int (iI 0)), e6]) (st' := [.int (iI (chz nw W B rs ru (chP nw W B rs ru n) (n : Int))), .int (iI (n : Int)), .ref 96]) (g1 := (HW sc ar tx oc rl ou tl, q)) rfl ?_
        refine RQ.iast (z := (n : Int)) (v := (chz nw W B rs ru (chP nw W B rs ru n) (n : Int))) (g1 := (HW sc (usc ar 96 (usz (ar 96) (n : Int) (chz nw W B rs ru (chP nw W B rs ru n) (n : Int)))) tx oc rl ou tl, q)) rfl rfl rfl rfl (by omega) (by decide) (HWa_96 rfl) ?_
        refine RQ.seg 8 (pc' := 18) (L' := [some (.ref 80), some (.int (((iI 100) * (iI (chR nw W B rs ru n))) + (iI (chz nw W B rs ru (chP nw W B rs ru n) (n : Int))))), some (.int ((iI (n : Int)) + (iI 1))), some (.int (iI (chz nw W B rs ru (chP nw W B rs ru n) (n : Int)))), some (.int (iI 0)), some (.int (iI 0)), e6]) (st' := []) (g1 := (HW sc (usc ar 96 (usz (ar 96) (n : Int) (chz nw W B rs ru (chP nw W B rs ru n) (n : Int)))) tx oc rl ou tl, q)) rfl ?_
        refine RQ.to (L' := [some (.ref 80), some (.int (iI (100 * (chR nw W B rs ru n) + (chz nw W B rs ru (chP nw W B rs ru n) (n : Int))))), some (.int (iI ((n : Int) + 1))), some (.int (iI (chz nw W B rs ru (chP nw W B rs ru n) (n : Int)))), some (.int (iI 0)), some (.int (iI 0)), e6]) (st' := []) (by simp only [iI_add, iI_sub, iI_mul, iI_neg]) rfl ?_
        rw [show 100 * chR nw W B rs ru n + chz nw W B rs ru (chP nw W B rs ru n) (n : Int) = chR nw W B rs ru (n + 1) from by show _ = chR nw W B rs ru n * 100 + chz nw W B rs ru (chP nw W B rs ru n) (n : Int); omega]
        refine m_co_l hF m (n + 1) sc (usc ar 96 (usz (ar 96) (n : Int) (chz nw W B rs ru (chP nw W B rs ru n) (n : Int)))) tx _ _ _ _ (by omega) ?_ ?_ ?_ ?_ ?_ hLt (fun sc' ar' tx' h1 h2 => hk sc' ar' tx' (Same.tr Same.rf h1) (Same.tr (Same.us rfl Same.rf) h2))
        · exact hM
        · exact hP
        · exact hru
        · exact hJ
        · intro c c0 c1
          show usz (ar 96) (n : Int) (chz nw W B rs ru (chP nw W B rs ru n) (n : Int)) c = usz (chP nw W B rs ru n) (n : Int) (chz nw W B rs ru (chP nw W B rs ru n) (n : Int)) c
          by_cases e : c = (n : Int)
          · rw [e, usz_s, usz_s]
          · rw [usz_n e, usz_n e]; exact hpu c c0 (by omega)
      · skip
        refine RQ.seg 3 (pc' := 53) (L' := [some (.ref 80), some (.int (iI (chR nw W B rs ru n))), some (.int (iI (n : Int))), some (.int (iI 99)), some (.int (iI 0)), some (.int (iI 0)), e6]) (st' := [.int (iI (n : Int)), .ref 91]) (g1 := (HW sc ar tx oc rl ou tl, q)) rfl ?_
        refine RQ.ialdv (z := (n : Int)) (v := (ru (n : Int))) rfl rfl rfl (by omega) (by decide) r1 ?_
        refine RQ.seg 1 (pc' := 55) (L' := [some (.ref 80), some (.int (iI (chR nw W B rs ru n))), some (.int (iI (n : Int))), some (.int (iI 99)), some (.int (iI 0)), some (.int (iI 0)), e6]) (st' := [.int (iI (-1)), .int (iI (ru (n : Int)))]) (g1 := (HW sc ar tx oc rl ou tl, q)) rfl ?_
        refine RQ.if2 (a := (ru (n : Int))) (b := (-1)) rfl rfl rfl rfl (by omega) (by omega) (fun _ => ?_) (fun (q : ¬ ru (n : Int) = (-1)) => absurd (show ru (n : Int) = (-1) from by omega) q)
        rw [← hz8]
        refine RQ.seg 4 (pc' := 116) (L' := [some (.ref 80), some (.int (iI (chR nw W B rs ru n))), some (.int (iI (n : Int))), some (.int (iI (chz nw W B rs ru (chP nw W B rs ru n) (n : Int)))), some (.int (iI 0)), some (.int (iI 0)), e6]) (st' := [.int (iI (chz nw W B rs ru (chP nw W B rs ru n) (n : Int))), .int (iI (n : Int)), .ref 96]) (g1 := (HW sc ar tx oc rl ou tl, q)) rfl ?_
        refine RQ.iast (z := (n : Int)) (v := (chz nw W B rs ru (chP nw W B rs ru n) (n : Int))) (g1 := (HW sc (usc ar 96 (usz (ar 96) (n : Int) (chz nw W B rs ru (chP nw W B rs ru n) (n : Int)))) tx oc rl ou tl, q)) rfl rfl rfl rfl (by omega) (by decide) (HWa_96 rfl) ?_
        refine RQ.seg 8 (pc' := 18) (L' := [some (.ref 80), some (.int (((iI 100) * (iI (chR nw W B rs ru n))) + (iI (chz nw W B rs ru (chP nw W B rs ru n) (n : Int))))), some (.int ((iI (n : Int)) + (iI 1))), some (.int (iI (chz nw W B rs ru (chP nw W B rs ru n) (n : Int)))), some (.int (iI 0)), some (.int (iI 0)), e6]) (st' := []) (g1 := (HW sc (usc ar 96 (usz (ar 96) (n : Int) (chz nw W B rs ru (chP nw W B rs ru n) (n : Int)))) tx oc rl ou tl, q)) rfl ?_
        refine RQ.to (L' := [some (.ref 80), some (.int (iI (100 * (chR nw W B rs ru n) + (chz nw W B rs ru (chP nw W B rs ru n) (n : Int))))), some (.int (iI ((n : Int) + 1))), some (.int (iI (chz nw W B rs ru (chP nw W B rs ru n) (n : Int)))), some (.int (iI 0)), some (.int (iI 0)), e6]) (st' := []) (by simp only [iI_add, iI_sub, iI_mul, iI_neg]) rfl ?_
        rw [show 100 * chR nw W B rs ru n + chz nw W B rs ru (chP nw W B rs ru n) (n : Int) = chR nw W B rs ru (n + 1) from by show _ = chR nw W B rs ru n * 100 + chz nw W B rs ru (chP nw W B rs ru n) (n : Int); omega]
        refine m_co_l hF m (n + 1) sc (usc ar 96 (usz (ar 96) (n : Int) (chz nw W B rs ru (chP nw W B rs ru n) (n : Int)))) tx _ _ _ _ (by omega) ?_ ?_ ?_ ?_ ?_ hLt (fun sc' ar' tx' h1 h2 => hk sc' ar' tx' (Same.tr Same.rf h1) (Same.tr (Same.us rfl Same.rf) h2))
        · exact hM
        · exact hP
        · exact hru
        · exact hJ
        · intro c c0 c1
          show usz (ar 96) (n : Int) (chz nw W B rs ru (chP nw W B rs ru n) (n : Int)) c = usz (chP nw W B rs ru n) (n : Int) (chz nw W B rs ru (chP nw W B rs ru n) (n : Int)) c
          by_cases e : c = (n : Int)
          · rw [e, usz_s, usz_s]
          · rw [usz_n e, usz_n e]; exact hpu c c0 (by omega)
theorem m_choice {K : PK} {d : Nat} {sc : Nat → Int} {ar : Nat → Int → Int} {tx oc : Nat} {rl : Nat → Option Nat} {ou : Nat → Int64} {tl : List PO} {q : Nat × Nat} {nw nb : Int} {W B : Int → Int → Int} (hF : FrOK nw nb W B) (hM : FrM (sc 8024) (sc 8025) (ar 85) (ar 86) nw nb W B) (hP : PMx nw nb W B (ar 94) (ar 95)) {rs : List (List Int)} {ru : Int → Int} (hru : ∀ b, 0 ≤ b → b < nb → ar 91 b = ru b ∧ -1 ≤ ru b ∧ ru b < (rs.length : Int)) (hJ : RuM rs (sc 8007) (ar 82) (ar 83)) (hLt : LtOK ar) : CQ K (d + 52) 218 [.ref 80] (HW sc ar tx oc rl ou tl, q) (fun r g' => r = some (.int (iI (sChoice nw nb W B rs ru))) ∧ ∃ sc' ar' tx', g' = (HW sc' ar' tx' oc rl ou tl, q) ∧ Same (8000 :: gtF) sc sc' ∧ Same [84, 96] ar ar' ∧ LtOK ar') := by
  have hn := hF.1
  have hm1 := hM.1
  have hm2 := hM.2.1
  refine CQ.of (own := 11) (n := 7) (ini := false) (rt := (some .int)) (cd := cd218) (by decide +kernel) rfl (by decide +kernel) rfl (Nat.le_of_ble_eq_true rfl) ?_
  refine RQ.seg 5 (pc' := 9) (L' := [some (.ref 80), none, none, none, none, none, none]) (st' := [.int (iI (sc 8025))]) (g1 := (HW (usc sc 8000 0) ar tx oc rl ou tl, q)) rfl ?_
  refine RQ.if1 (a := (sc 8025)) rfl rfl rfl (by omega) (fun (h1 : sc 8025 ≠ 0) => ?_) (fun (h1 : ¬ sc 8025 ≠ 0) => ?_)
  · skip
    refine RQ.seg 4 (pc' := 18) (L' := [some (.ref 80), some (.int (iI 0)), some (.int (iI 0)), none, none, none, none]) (st' := []) (g1 := (HW (usc sc 8000 0) ar tx oc rl ou tl, q)) rfl ?_
    refine m_co_l hF nb.toNat 0 (usc sc 8000 0) ar tx none none none none (by omega) hM hP hru hJ (fun c c0 c1 => absurd c1 (by omega)) hLt (fun sc' ar' tx' h1 h2 h3 => ⟨by rw [show sChoice nw nb W B rs ru = chR nw W B rs ru nb.toNat from if_pos (by omega)], sc', ar', tx', rfl, Same.tr (Same.us rfl Same.rf) (Same.w rfl h1), h2, h3⟩)
  · skip
    refine RQ.seg 1 (pc' := 13) (L' := [some (.ref 80), none, none, none, none, none, none]) (st' := [.int (iI (-1))]) (g1 := (HW (usc sc 8000 0) ar tx oc rl ou tl, q)) rfl ?_
    refine RQ.ret rfl rfl ?_
    exact ⟨by rw [show sChoice nw nb W B rs ru = -1 from if_neg (by omega)], _, ar, tx, rfl, Same.us rfl Same.rf, Same.rf, hLt⟩
theorem m_fault1 {K : PK} {d : Nat} {sc : Nat → Int} {ar : Nat → Int → Int} {tx oc : Nat} {rl : Nat → Option Nat} {ou : Nat → Int64} {tl : List PO} {q : Nat × Nat} {tp : List Int} (ht : TpOK tp) (hs : sc 8006 = (tp.length : Int)) (hl : LAt sgb (ar 81) tp) (hL : LtOK ar) : CQ K (d + 51) 182 [.ref 80, .int (iI 1)] (HW sc ar tx oc rl ou tl, q) (fun r g' => r = some (.int (iI (rlF tp))) ∧ ∃ sc', g' = (HW sc' ar 81 oc rl ou tl, q) ∧ Same (8000 :: gtF) sc sc') := by
  have ht1 := ht.1
  refine CQ.of (own := 11) (n := 2) (ini := false) (rt := (some .int)) (cd := cd182) (by decide +kernel) rfl (by decide +kernel) rfl (Nat.le_of_ble_eq_true rfl) ?_
  refine RQ.seg 7 (pc' := 9) (L' := [some (.ref 80), some (.int (iI 1))]) (st' := [.long (lL 1), .long (lL 0), .long (lL 1)]) (g1 := (HW (usc sc 8000 0) ar tx oc rl ou tl, q)) rfl ?_
  refine RQ.call rfl rfl (CallR.up (d := 1) (m_isIn_t (d := 0) (a := 1) (b := 0) (c := 1) (by omega) (by omega) (by omega) (by omega)) (by omega)) ?_
  refine RQ.seg 9 (pc' := 39) (L' := [some (.ref 80), some (.int (iI 1))]) (st' := [.int (iI (sc 8006)), .int (iI 0), .ref 81, .ref 80]) (g1 := (HW (usc sc 8000 0) ar tx oc rl ou tl, q)) rfl ?_
  refine RQ.to (L' := [some (.ref 80), some (.int (iI 1))]) (st' := [.int (iI (tp.length : Int)), .int (iI 0), .ref 81, .ref 80]) rfl (by rw [show sc 8006 = (tp.length : Int) from hs]) ?_
  refine RQ.callQ rfl rfl (CQ.up (m_goT81 (d := 0) (tp := tp) (bg := 0) (sc := usc sc 8000 0) (ar := ar) ht hL rfl (by omega) (fun k k0 k1 => by rw [Int.zero_add]; exact hl k k0 k1)) (by omega)) (fun rv9 g9 hc9 => ?_)
  obtain ⟨rfl, sc1, rfl, hs1, he1, hw1⟩ := hc9
  refine RQ.seg 2 (pc' := 46) (L' := [some (.ref 80), some (.int (iI 1))]) (st' := [.int (iI (sc1 8011))]) (g1 := (HW sc1 ar 81 oc rl ou tl, q)) rfl ?_
  refine RQ.ret rfl rfl ?_
  exact ⟨by rw [he1], _, rfl, Same.tr (Same.us rfl Same.rf) (Same.w rfl hs1)⟩
theorem m_t1_l {K : PK} {d : Nat} {sc : Nat → Int} {ar : Nat → Int → Int} {oc : Nat} {rl : Nat → Option Nat} {ou : Nat → Int64} {tl : List PO} {q : Nat × Nat} {Q : Option Value → PG → Prop} {tp : List Int} (ht : TpOK tp) (hl : LAt sgb (ar 81) tp) {z : Int} (hz : 0 ≤ z ∧ z ≤ 3) (h7 : sc 8007 = z) : ∀ (m : Nat) (i : Int) (f : Int → Int) (hi : 0 ≤ i ∧ i + m = (tp.length : Int)) (hf : ∀ k, 0 ≤ k → k < i → f (160 * z + k) = sgb (lat tp k)) (hf2 : ∀ k, (k < 160 * z ∨ 160 * z + 160 ≤ k) → f k = ar 82 k) (hk : ∀ f', (∀ k, 0 ≤ k → k < (tp.length : Int) → f' (160 * z + k) = sgb (lat tp k)) → (∀ k, (k < 160 * z ∨ 160 * z + 160 ≤ k) → f' k = ar 82 k) → RQ K (d + 51) 11 false (some .int) cd183 88 [some (.ref 80), some (.int (iI 1)), some (.int (iI (tp.length : Int))), some (.int (iI (tp.length : Int)))] [] (HW sc (usc ar 82 f') 81 oc rl ou tl, q) Q), RQ K (d + 51) 11 false (some .int) cd183 56 [some (.ref 80), some (.int (iI 1)), some (.int (iI (tp.length : Int))), some (.int (iI i))] [] (HW sc (usc ar 82 f) 81 oc rl ou tl, q) Q
  | 0, i, f, hi, hf, hf2, hk => by
    have ht1 := ht.1
    refine RQ.seg 2 (pc' := 58) (L' := [some (.ref 80), some (.int (iI 1)), some (.int (iI (tp.length : Int))), some (.int (iI i))]) (st' := [.int (iI (tp.length : Int)), .int (iI i)]) (g1 := (HW sc (usc ar 82 f) 81 oc rl ou tl, q)) rfl ?_
    refine RQ.if2 (a := i) (b := (tp.length : Int)) rfl rfl rfl rfl (by omega) (by omega) (fun _ => ?_) (fun (q : ¬ (tp.length : Int) ≤ i) => absurd (show (tp.length : Int) ≤ i from by omega) q)
    rw [show i = (tp.length : Int) by omega]
    exact hk f (fun k k0 k1 => hf k k0 (by omega)) hf2
  | m + 1, i, f, hi, hf, hf2, hk => by
    have ht1 := ht.1
    have hsg := sgb_r (ht.2 i (by omega) (by omega))
    have hli := hl i (by omega) (by omega)
    refine RQ.seg 2 (pc' := 58) (L' := [some (.ref 80), some (.int (iI 1)), some (.int (iI (tp.length : Int))), some (.int (iI i))]) (st' := [.int (iI (tp.length : Int)), .int (iI i)]) (g1 := (HW sc (usc ar 82 f) 81 oc rl ou tl, q)) rfl ?_
    refine RQ.if2 (a := i) (b := (tp.length : Int)) rfl rfl rfl rfl (by omega) (by omega) (fun (q : (tp.length : Int) ≤ i) => absurd q (show ¬ (tp.length : Int) ≤ i from by omega)) (fun _ => ?_)
    refine RQ.seg 5 (pc' := 72) (L' := [some (.ref 80), some (.int (iI 1)), some (.int (iI (tp.length : Int))), some (.int (iI i))]) (st' := [.int (iI (sc 8007)), .int (iI 160), .ref 82]) (g1 := (HW sc (usc ar 82 f) 81 oc rl ou tl, q)) rfl ?_
    refine RQ.to (L' := [some (.ref 80), some (.int (iI 1)), some (.int (iI (tp.length : Int))), some (.int (iI i))]) (st' := [.int (iI z), .int (iI 160), .ref 82]) rfl (by rw [show sc 8007 = z from h7]) ?_
    refine RQ.seg 6 (pc' := 80) (L' := [some (.ref 80), some (.int (iI 1)), some (.int (iI (tp.length : Int))), some (.int (iI i))]) (st' := [.int (iI i), .ref 81, .int (((iI 160) * (iI z)) + (iI i)), .ref 82]) (g1 := (HW sc (usc ar 82 f) 81 oc rl ou tl, q)) rfl ?_
    refine RQ.baldv (z := i) (v := (sgb (lat tp i))) rfl rfl rfl (by omega) (by decide) hli ?_
    refine RQ.bast (z := (160 * z + i)) (v := (sgb (lat tp i))) (g1 := (HW sc (usc ar 82 (usz f (160 * z + i) (sgb (lat tp i)))) 81 oc rl ou tl, q)) rfl (by simp only [iI_add, iI_sub, iI_mul, iI_neg]) (sgb_8 hsg.1 hsg.2.1) rfl (by omega) (by decide) (HWa_82 (by funext j; unfold usc; cases hb : Nat.beq j 82 <;> first | rfl | (rw [Nat.eq_of_beq_eq_true hb]; rfl))) ?_
    refine RQ.seg 2 (pc' := 56) (L' := [some (.ref 80), some (.int (iI 1)), some (.int (iI (tp.length : Int))), some (.int ((iI i) + (iI 1)))]) (st' := []) (g1 := (HW sc (usc ar 82 (usz f (160 * z + i) (sgb (lat tp i)))) 81 oc rl ou tl, q)) rfl ?_
    refine RQ.to (L' := [some (.ref 80), some (.int (iI 1)), some (.int (iI (tp.length : Int))), some (.int (iI (i + 1)))]) (st' := []) (by simp only [iI_add, iI_sub, iI_mul, iI_neg]) rfl ?_
    refine m_t1_l ht hl hz h7 m (i + 1) _ (by omega) (fun k k0 k1 => ?_) (fun k k0 => ?_) hk
    · by_cases e : k = i
      · rw [e, usz_s]
      · rw [usz_n (by omega)]; exact hf k k0 (by omega)
    · rw [usz_n (by omega)]; exact hf2 k k0
theorem m_text1 {K : PK} {d : Nat} {sc : Nat → Int} {ar : Nat → Int → Int} {tx oc : Nat} {rl : Nat → Option Nat} {ou : Nat → Int64} {tl : List PO} {q : Nat × Nat} {tp : List Int} (ht : TpOK tp) (hs : sc 8006 = (tp.length : Int)) (hl : LAt sgb (ar 81) tp) (hL : LtOK ar) (rc : 0 ≤ sc 8007 ∧ sc 8007 ≤ 4) : CQ K (d + 52) 183 [.ref 80, .int (iI 1)] (HW sc ar tx oc rl ou tl, q) (fun r g' => r = some (.int (iI (sText1 (sc 8007) tp))) ∧ ∃ sc' ar' tx', g' = (HW sc' ar' tx' oc rl ou tl, q) ∧ Same (8000 :: 8006 :: 8007 :: gtF) sc sc' ∧ Same [82, 83] ar ar' ∧ ((sc 8007 < 4 ∧ rlF tp = -1) → sc' 8007 = sc 8007 + 1 ∧ sc' 8006 = 0 ∧ (∀ k, 0 ≤ k → k < (tp.length : Int) → ar' 82 (160 * sc 8007 + k) = sgb (lat tp k)) ∧ (∀ k, (k < 160 * sc 8007 ∨ 160 * sc 8007 + 160 ≤ k) → ar' 82 k = ar 82 k) ∧ ar' 83 (sc 8007) = (tp.length : Int) ∧ (∀ k, k ≠ sc 8007 → ar' 83 k = ar 83 k)) ∧ (¬ (sc 8007 < 4 ∧ rlF tp = -1) → sc' 8007 = sc 8007 ∧ sc' 8006 = sc 8006 ∧ ar' 82 = ar 82 ∧ ar' 83 = ar 83)) := by
  have ht1 := ht.1
  have hrF := rlF_r ht
  refine CQ.of (own := 11) (n := 4) (ini := false) (rt := (some .int)) (cd := cd183) (by decide +kernel) rfl (by decide +kernel) rfl (Nat.le_of_ble_eq_true rfl) ?_
  refine RQ.seg 7 (pc' := 9) (L' := [some (.ref 80), some (.int (iI 1)), none, none]) (st' := [.long (lL 1), .long (lL 0), .long (lL 1)]) (g1 := (HW (usc sc 8000 0) ar tx oc rl ou tl, q)) rfl ?_
  refine RQ.call rfl rfl (CallR.up (d := 1) (m_isIn_t (d := 0) (a := 1) (b := 0) (c := 1) (by omega) (by omega) (by omega) (by omega)) (by omega)) ?_
  refine RQ.seg 7 (pc' := 25) (L' := [some (.ref 80), some (.int (iI 1)), none, none]) (st' := [.int (iI 4), .int (iI (sc 8007))]) (g1 := (HW (usc sc 8000 0) ar tx oc rl ou tl, q)) rfl ?_
  refine RQ.if2 (a := (sc 8007)) (b := 4) rfl rfl rfl rfl (by omega) (by omega) (fun (h1 : sc 8007 = 4) => ?_) (fun (h1 : ¬ sc 8007 = 4) => ?_)
  · skip
    refine RQ.seg 1 (pc' := 38) (L' := [some (.ref 80), some (.int (iI 1)), none, none]) (st' := [.int (iI (-1))]) (g1 := (HW (usc sc 8000 0) ar tx oc rl ou tl, q)) rfl ?_
    refine RQ.ret rfl rfl ?_
    exact ⟨by rw [show sText1 (sc 8007) tp = -1 from if_neg (by omega)], _, ar, tx, rfl, Same.us rfl Same.rf, Same.rf, fun z => absurd z (by omega), fun _ => ⟨rfl, rfl, rfl, rfl⟩⟩
  · skip
    refine RQ.seg 2 (pc' := 30) (L' := [some (.ref 80), some (.int (iI 1)), none, none]) (st' := [.int (iI 1), .ref 80]) (g1 := (HW (usc sc 8000 0) ar tx oc rl ou tl, q)) rfl ?_
    refine RQ.callQ rfl rfl (CQ.up (m_fault1 (d := 0) (sc := usc sc 8000 0) (ar := ar) ht hs hl hL) (by omega)) (fun rv9 g9 hc9 => ?_)
    obtain ⟨rfl, sc1, rfl, hs1⟩ := hc9
    have hsF : Same (8000 :: gtF) sc sc1 := Same.tr (Same.us rfl Same.rf) hs1
    have hln : sc1 8006 = (tp.length : Int) := (hsF 8006 rfl).trans hs
    have h71 : sc1 8007 = sc 8007 := hsF 8007 rfl
    refine RQ.seg 1 (pc' := 34) (L' := [some (.ref 80), some (.int (iI 1)), none, none]) (st' := [.int (iI (-1)), .int (iI (rlF tp))]) (g1 := (HW sc1 ar 81 oc rl ou tl, q)) rfl ?_
    refine RQ.if2 (a := (rlF tp)) (b := (-1)) rfl rfl rfl rfl (by omega) (by omega) (fun (h2 : rlF tp = (-1)) => ?_) (fun (h2 : ¬ rlF tp = (-1)) => ?_)
    · skip
      refine RQ.seg 2 (pc' := 43) (L' := [some (.ref 80), some (.int (iI 1)), none, none]) (st' := [.int (iI (sc1 8006))]) (g1 := (HW sc1 ar 81 oc rl ou tl, q)) rfl ?_
      refine RQ.to (L' := [some (.ref 80), some (.int (iI 1)), none, none]) (st' := [.int (iI (tp.length : Int))]) rfl (by rw [show sc1 8006 = (tp.length : Int) from hln]) ?_
      refine RQ.seg 9 (pc' := 56) (L' := [some (.ref 80), some (.int (iI 1)), some (.int (iI (tp.length : Int))), some (.int (iI 0))]) (st' := []) (g1 := (HW (usc sc1 8006 0) ar 81 oc rl ou tl, q)) rfl ?_
      refine RQ.hp (g1 := (HW (usc sc1 8006 0) (usc ar 82 (ar 82)) 81 oc rl ou tl, q)) (congrArg (fun a => (HW (usc sc1 8006 0) a 81 oc rl ou tl, q)) (show ar = usc ar 82 (ar 82) by funext j; unfold usc; cases hb : Nat.beq j 82 <;> first | rfl | (rw [Nat.eq_of_beq_eq_true hb]; rfl))) ?_
      refine m_t1_l (sc := usc sc1 8006 0) (ar := ar) ht hl (z := sc 8007) (by omega) h71 tp.length 0 (ar 82) (by omega) (fun k k0 k1 => absurd k1 (by omega)) (fun k _ => rfl) (fun f82 k82 k83 => ?_)
      refine RQ.seg 5 (pc' := 97) (L' := [some (.ref 80), some (.int (iI 1)), some (.int (iI (tp.length : Int))), some (.int (iI (tp.length : Int)))]) (st' := [.int (iI (tp.length : Int)), .int (iI (sc1 8007)), .ref 83]) (g1 := (HW (usc sc1 8006 0) (usc ar 82 f82) 81 oc rl ou tl, q)) rfl ?_
      refine RQ.iast (z := (sc1 8007)) (v := (tp.length : Int)) (g1 := (HW (usc sc1 8006 0) (usc (usc ar 82 f82) 83 (usz (ar 83) (sc1 8007) (tp.length : Int))) 81 oc rl ou tl, q)) rfl rfl rfl rfl (by omega) (by decide) (HWa_83 rfl) ?_
      refine RQ.seg 5 (pc' := 105) (L' := [some (.ref 80), some (.int (iI 1)), some (.int (iI (tp.length : Int))), some (.int (iI (tp.length : Int)))]) (st' := [.int ((iI (sc1 8007)) + (iI 1)), .ref 80]) (g1 := (HW (usc sc1 8006 0) (usc (usc ar 82 f82) 83 (usz (ar 83) (sc1 8007) (tp.length : Int))) 81 oc rl ou tl, q)) rfl ?_
      refine RQ.to (L' := [some (.ref 80), some (.int (iI 1)), some (.int (iI (tp.length : Int))), some (.int (iI (tp.length : Int)))]) (st' := [.int (iI (sc1 8007 + 1)), .ref 80]) rfl (by simp only [iI_add, iI_sub, iI_mul, iI_neg]) ?_
      refine RQ.seg 5 (pc' := 114) (L' := [some (.ref 80), some (.int (iI 1)), some (.int (iI (tp.length : Int))), some (.int (iI (tp.length : Int)))]) (st' := [.int ((iI (sc1 8007 + 1)) - (iI 1))]) (g1 := (HW (usc (usc sc1 8006 0) 8007 (sc1 8007 + 1)) (usc (usc ar 82 f82) 83 (usz (ar 83) (sc1 8007) (tp.length : Int))) 81 oc rl ou tl, q)) rfl ?_
      refine RQ.to (L' := [some (.ref 80), some (.int (iI 1)), some (.int (iI (tp.length : Int))), some (.int (iI (tp.length : Int)))]) (st' := [.int (iI (sc1 8007 + 1 - 1))]) rfl (by simp only [iI_add, iI_sub, iI_mul, iI_neg]) ?_
      refine RQ.ret rfl rfl ?_
      exact ⟨by rw [show sText1 (sc 8007) tp = sc 8007 from if_pos (by omega)]; exact congrArg (fun z => some (Value.int (iI z))) (by omega), _, _, 81, rfl, Same.tr (Same.w rfl hsF) (by repeat (first | exact Same.rf | refine Same.us rfl ?_)), (by repeat (first | exact Same.rf | refine Same.us rfl ?_)), fun _ => ⟨by show sc1 8007 + 1 = _; omega, rfl, fun k k0 k1 => k82 k k0 k1, fun k hk => k83 k hk, by show usz (ar 83) (sc1 8007) _ (sc 8007) = _; rw [h71, usz_s], fun k hk => by show usz (ar 83) (sc1 8007) _ k = _; rw [h71, usz_n hk]⟩, fun z => absurd (by omega) z⟩
    · skip
      refine RQ.seg 1 (pc' := 38) (L' := [some (.ref 80), some (.int (iI 1)), none, none]) (st' := [.int (iI (-1))]) (g1 := (HW sc1 ar 81 oc rl ou tl, q)) rfl ?_
      refine RQ.ret rfl rfl ?_
      exact ⟨by rw [show sText1 (sc 8007) tp = -1 from if_neg (by omega)], _, ar, 81, rfl, Same.w rfl hsF, Same.rf, fun z => absurd z (by omega), fun _ => ⟨h71, hsF 8006 rfl, rfl, rfl⟩⟩
