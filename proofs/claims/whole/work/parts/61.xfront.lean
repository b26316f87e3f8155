/-! the class reads a front, by wip/tools -/
/-! the class reads a front -/
section RQAndv
variable {K : PK} {d own : Nat} {ini : Bool} {rt : Option FieldType} {cd : PC} {pc : Nat} {L : PL} {st : List Value} {g : PG} {Q : Option Value → PG → Prop}
theorem RQ.iandv {len : Nat} {a b : Int} {x y : Int32} (hf : pfetch cd pc = some (.iand, len)) (hx : x = iI a) (hy : y = iI (2 ^ b.toNat)) (ha : 0 ≤ a) (t1 : a / 2 ^ b.toNat % 2 = 1 → RQ K d own ini rt cd (pc + 1) L (.int (iI (2 ^ b.toNat)) :: st) g Q) (t0 : ¬ a / 2 ^ b.toNat % 2 = 1 → RQ K d own ini rt cd (pc + 1) L (.int (iI 0) :: st) g Q) : RQ K d own ini rt cd pc L (.int y :: .int x :: st) g Q := by
  subst hx hy
  by_cases h : a / 2 ^ b.toNat % 2 = 1
  · refine RQ.iandq hf ?_ (t1 h)
    rw [and_pow b.toNat rfl ha, h, Int.one_mul]
  · refine RQ.iandq hf ?_ (t0 h)
    rw [and_pow b.toNat rfl ha, show a / 2 ^ b.toNat % 2 = 0 by omega, Int.zero_mul]
end RQAndv
theorem kr4 (x : Int) : 0 ≤ kc4 x ∧ kc4 x ≤ 99 := by unfold kc4; repeat (split <;> (try omega))
theorem kr5 (x : Int) : 0 ≤ kc5 x ∧ kc5 x ≤ 99 := by unfold kc5; repeat (split <;> (try omega))
theorem kr6 (x : Int) : 0 ≤ kc6 x ∧ kc6 x ≤ 99 := by unfold kc6; repeat (split <;> (try omega))
theorem kr7 (x : Int) : 0 ≤ kc7 x ∧ kc7 x ≤ 99 := by unfold kc7; repeat (split <;> (try omega))
theorem kr8 (x : Int) : 0 ≤ kc8 x ∧ kc8 x ≤ 99 := by unfold kc8; repeat (split <;> (try omega))
theorem kr9 (x : Int) : 0 ≤ kc9 x ∧ kc9 x ≤ 99 := by unfold kc9; repeat (split <;> (try omega))
theorem kr10 (x : Int) : 0 ≤ kc10 x ∧ kc10 x ≤ 99 := by unfold kc10; repeat (split <;> (try omega))
theorem kr11 (x : Int) : 0 ≤ kc11 x ∧ kc11 x ≤ 99 := by unfold kc11; repeat (split <;> (try omega))
theorem kr12 (x : Int) : 0 ≤ kc12 x ∧ kc12 x ≤ 99 := by unfold kc12; repeat (split <;> (try omega))
theorem p2_r {b : Int} (h : 0 ≤ b ∧ b ≤ 5) : 1 ≤ (2 : Int) ^ b.toNat ∧ (2 : Int) ^ b.toNat ≤ 32 := by
  rcases (show b = 0 ∨ b = 1 ∨ b = 2 ∨ b = 3 ∨ b = 4 ∨ b = 5 by omega) with rfl | rfl | rfl | rfl | rfl | rfl <;> decide
theorem itR_n {tp : List Int} {lo hi a : Int} (h : (nmR tp 2 a).1 ≠ -1) : itR tp lo hi a = nmR tp 2 a := if_pos h
theorem itR_o {tp : List Int} {lo hi a : Int} (h : (nmR tp 2 a).1 = -1) (h2 : (nmR tp 2 a).2.1 < lo ∨ hi < (nmR tp 2 a).2.1) : itR tp lo hi a = ((nmR tp 2 a).2.2 - 1, (nmR tp 2 a).2.1, (nmR tp 2 a).2.2) := by unfold itR; rw [if_neg (by omega), if_pos h2]
theorem itR_g {tp : List Int} {lo hi a : Int} (h : (nmR tp 2 a).1 = -1) (h2 : ¬ ((nmR tp 2 a).2.1 < lo ∨ hi < (nmR tp 2 a).2.1)) : itR tp lo hi a = nmR tp 2 a := by unfold itR; rw [if_neg (by omega), if_neg h2]
theorem x_itw0_l {K : PK} {d : Nat} {sc : Nat → Int} {ar : Nat → Int → Int} {tx oc : Nat} {rl : Nat → Option Nat} {ou : Nat → Int64} {tl : List PO} {q : Nat × Nat} {Q : Option Value → PG → Prop} {tp : List Int} (ht : TpOK tp) (hs : sc 101 = (tp.length : Int)) (hl : LAt (fun v => v) (ar 2) tp) (hK0 : K 0 = some (4, zA kc0)) (hK6 : K 6 = some (4, zA kc6)) (hK7 : K 7 = some (4, zA kc7)) : ∀ (m : Nat) (i t a : Int) (f v : Int → Int) (e7 : Option Value) (hm : i + m = 5) (hi : 0 ≤ i) (htr : 0 ≤ t ∧ t < 16) (hpc : pc4 t = i) (ha : 0 ≤ a ∧ a ≤ (tp.length : Int)) (hf : ∀ j, 0 ≤ j → j < 4 → f j = v j) (hk : ∀ a' w' f', (-1 ≤ w' ∧ w' ≤ 160) → (0 ≤ a' ∧ a' ≤ (tp.length : Int)) → w' = (its pw kc6 kc7 tp m t a v).1 → ((its pw kc6 kc7 tp m t a v).1 = -1 → a' = (its pw kc6 kc7 tp m t a v).2.1 ∧ ∀ j, 0 ≤ j → j < 4 → f' j = (its pw kc6 kc7 tp m t a v).2.2 j) → Q none (HW (usc (usc sc 1401 a') 1402 w') (usc ar 17 f') tx oc rl ou tl, q)), RQ K (d + 3) 3 false none cd27 16 [some (.ref 14), some (.retAddr 0), some (.retAddr 6), some (.retAddr 7), some (.ref 17), some (.int (iI t)), some (.int (iI i)), e7] [] (HW (usc (usc sc 1401 a) 1402 (-1)) (usc ar 17 f) tx oc rl ou tl, q) Q
  | 0, i, t, a, f, v, e7, hm, hi, htr, hpc, ha, hf, hk => by
    have ht1 := ht.1
    refine RQ.seg 2 (pc' := 19) (L' := [some (.ref 14), some (.retAddr 0), some (.retAddr 6), some (.retAddr 7), some (.ref 17), some (.int (iI t)), some (.int (iI i)), e7]) (st' := [.retAddr 0, .int (iI i)]) (g1 := (HW (usc (usc sc 1401 a) 1402 (-1)) (usc ar 17 f) tx oc rl ou tl, q)) rfl ?_
    refine RQ.kalen rfl hK0 ?_
    refine RQ.if2 (a := i) (b := 4) rfl rfl rfl rfl (by omega) (by omega) (fun _ => ?_) (fun (q : ¬ 4 < i) => absurd (show 4 < i from by omega) q)
    refine RQ.ret rfl rfl ?_
    exact hk _ _ _ (by omega) (by omega) rfl (fun _ => ⟨rfl, hf⟩)
  | m + 1, i, t, a, f, v, e7, hm, hi, htr, hpc, ha, hf, hk => by
    have ht1 := ht.1
    have hsk := sk_r (tp := tp) ha.2
    have hlr := tch_r ht (sk tp a)
    have hlk : 0 ≤ lk tp a ∧ lk tp a ≤ 255 := hlr
    have hpr := pw_r (lk tp a)
    have hkr : lk tp a ≠ 0 → 0 ≤ sk tp a ∧ sk tp a < (tp.length : Int) := fun z => tch_pos z
    have hkA := kr6 (pw (lk tp a))
    have hkB := kr7 (pw (lk tp a))
    refine RQ.seg 2 (pc' := 19) (L' := [some (.ref 14), some (.retAddr 0), some (.retAddr 6), some (.retAddr 7), some (.ref 17), some (.int (iI t)), some (.int (iI i)), e7]) (st' := [.retAddr 0, .int (iI i)]) (g1 := (HW (usc (usc sc 1401 a) 1402 (-1)) (usc ar 17 f) tx oc rl ou tl, q)) rfl ?_
    refine RQ.kalen rfl hK0 ?_
    refine RQ.if2 (a := i) (b := 4) rfl rfl rfl rfl (by omega) (by omega) (fun (q : 4 < i) => absurd q (show ¬ 4 < i from by omega)) (fun _ => ?_)
    refine RQ.seg 1 (pc' := 24) (L' := [some (.ref 14), some (.retAddr 0), some (.retAddr 6), some (.retAddr 7), some (.ref 17), some (.int (iI t)), some (.int (iI i)), e7]) (st' := [.ref 14]) (g1 := (HW (usc (usc sc 1401 a) 1402 (-1)) (usc ar 17 f) tx oc rl ou tl, q)) rfl ?_
    refine RQ.call rfl rfl (CallR.up (d := 1) (x_fine14t (d := 0) (sc := usc (usc sc 1401 a) 1402 (-1)) (ar := usc ar 17 f) (by show -1 ≤ (-1 : Int) ∧ (-1 : Int) ≤ 200; omega) rfl) (by omega)) ?_
    refine RQ.seg 3 (pc' := 32) (L' := [some (.ref 14), some (.retAddr 0), some (.retAddr 6), some (.retAddr 7), some (.ref 17), some (.int (iI t)), some (.int (iI i)), e7]) (st' := [.ref 14, .retAddr 0]) (g1 := (HW (usc (usc sc 1401 a) 1402 (-1)) (usc ar 17 f) tx oc rl ou tl, q)) rfl ?_
    refine RQ.call rfl rfl (CallR.up (d := 1) (x_look14 (d := 0) (sc := usc (usc sc 1401 a) 1402 (-1)) (ar := usc ar 17 f) (a := a) ht hs hl rfl ha) (by omega)) ?_
    refine RQ.hp (g1 := (HW (usc (usc sc 1401 (sk tp a)) 1402 (-1)) (usc ar 17 f) tx oc rl ou tl, q)) (HW_e (by rw [usc_sw _ 1402 1401 _ _ rfl, usc_uu _ 1401 _ _]; try rfl) rfl) ?_
    refine RQ.call rfl rfl (CallR.up (d := 1) (x_place0 (d := 0) (c := lk tp a) hK0 (by omega)) (by omega)) ?_
    refine RQ.seg 3 (pc' := 43) (L' := [some (.ref 14), some (.retAddr 0), some (.retAddr 6), some (.retAddr 7), some (.ref 17), some (.int (iI t)), some (.int (iI i)), some (.int (iI (pw (lk tp a))))]) (st' := [.int (iI (-1)), .int (iI (pw (lk tp a)))]) (g1 := (HW (usc (usc sc 1401 (sk tp a)) 1402 (-1)) (usc ar 17 f) tx oc rl ou tl, q)) rfl ?_
    refine RQ.if2 (a := (pw (lk tp a))) (b := (-1)) rfl rfl rfl rfl (by omega) (by omega) (fun (h2 : pw (lk tp a) ≠ (-1)) => ?_) (fun (h2 : ¬ pw (lk tp a) ≠ (-1)) => ?_)
    · skip
      refine RQ.seg 3 (pc' := 52) (L' := [some (.ref 14), some (.retAddr 0), some (.retAddr 6), some (.retAddr 7), some (.ref 17), some (.int (iI t)), some (.int (iI i)), some (.int (iI (pw (lk tp a))))]) (st' := [.int (iI (pw (lk tp a))), .int (iI 1), .int (iI t)]) (g1 := (HW (usc (usc sc 1401 (sk tp a)) 1402 (-1)) (usc ar 17 f) tx oc rl ou tl, q)) rfl ?_
      refine RQ.ishl1 (b := (pw (lk tp a))) rfl rfl rfl (by omega) ?_
      have hp2 := p2_r (b := pw (lk tp a)) (by omega)
      refine RQ.iandv (a := t) (b := pw (lk tp a)) rfl rfl rfl (by omega) (fun hbt => ?_) (fun hbt => ?_)
      · skip
        refine RQ.if1 (a := (2 ^ (pw (lk tp a)).toNat)) rfl rfl rfl (by omega) (fun (q : 2 ^ (pw (lk tp a)).toNat = 0) => absurd q (show ¬ 2 ^ (pw (lk tp a)).toNat = 0 from by omega)) (fun _ => ?_)
        refine RQ.seg 3 (pc' := 62) (L' := [some (.ref 14), some (.retAddr 0), some (.retAddr 6), some (.retAddr 7), some (.ref 17), some (.int (iI t)), some (.int (iI i)), some (.int (iI (pw (lk tp a))))]) (st' := [.int (iI (sk tp a)), .ref 14]) (g1 := (HW (usc (usc sc 1401 (sk tp a)) 1402 (-1)) (usc ar 17 f) tx oc rl ou tl, q)) rfl ?_
        refine RQ.call rfl rfl (CallR.up (d := 1) (x_refuse14 (d := 0) (sc := usc (usc sc 1401 (sk tp a)) 1402 (-1)) (ar := usc ar 17 f) (p := sk tp a) (by show -1 ≤ (-1) ∧ (-1) ≤ 200; omega)) (by omega)) ?_
        refine RQ.hp (g1 := (HW (usc (usc sc 1401 (sk tp a)) 1402 (sk tp a)) (usc ar 17 f) tx oc rl ou tl, q)) (HW_e (by rw [usc_uu _ 1402 _ _]; try rfl) rfl) ?_
        refine RQ.ret rfl rfl ?_
        rw [its, if_neg (by omega), if_pos hbt] at hk
        have hkq := hkr (hpr.2.2 (by omega))
        exact hk _ _ _ (by omega) (by omega) rfl (fun z => absurd z (by omega))
      · skip
        refine RQ.seg 4 (pc' := 71) (L' := [some (.ref 14), some (.retAddr 0), some (.retAddr 6), some (.retAddr 7), some (.ref 17), some (.int (iI t)), some (.int (iI i)), some (.int (iI (pw (lk tp a))))]) (st' := [.int (iI (pw (lk tp a))), .int (iI 1), .int (iI t)]) (g1 := (HW (usc (usc sc 1401 (sk tp a)) 1402 (-1)) (usc ar 17 f) tx oc rl ou tl, q)) rfl ?_
        refine RQ.ishl1 (b := (pw (lk tp a))) rfl rfl rfl (by omega) ?_
        refine RQ.ior (a := t) (b := (pw (lk tp a))) rfl rfl rfl (by omega) (by omega) ?_
        refine RQ.seg 6 (pc' := 82) (L' := [some (.ref 14), some (.retAddr 0), some (.retAddr 6), some (.retAddr 7), some (.ref 17), some (.int (iI (orz t (pw (lk tp a))))), some (.int (iI i)), some (.int (iI (pw (lk tp a))))]) (st' := [.int ((iI (sk tp a)) + (iI 1)), .ref 14]) (g1 := (HW (usc (usc sc 1401 (sk tp a)) 1402 (-1)) (usc ar 17 f) tx oc rl ou tl, q)) rfl ?_
        refine RQ.to (L' := [some (.ref 14), some (.retAddr 0), some (.retAddr 6), some (.retAddr 7), some (.ref 17), some (.int (iI (orz t (pw (lk tp a))))), some (.int (iI i)), some (.int (iI (pw (lk tp a))))]) (st' := [.int (iI (sk tp a + 1)), .ref 14]) rfl (by simp only [iI_add, iI_sub, iI_mul, iI_neg]) ?_
        refine RQ.seg 5 (pc' := 91) (L' := [some (.ref 14), some (.retAddr 0), some (.retAddr 6), some (.retAddr 7), some (.ref 17), some (.int (iI (orz t (pw (lk tp a))))), some (.int (iI i)), some (.int (iI (pw (lk tp a))))]) (st' := [.int (iI 2), .ref 14, .int (iI (pw (lk tp a))), .ref 17]) (g1 := (HW (usc (usc sc 1401 (sk tp a + 1)) 1402 (-1)) (usc ar 17 f) tx oc rl ou tl, q)) rfl ?_
        have hne : lk tp a ≠ 0 := hpr.2.2 (by omega)
        have hkq := hkr hne
        have hnr := nmR_r (tp := tp) (k := 2) (a := sk tp a + 1) (by omega) (by omega)
        have hcall := x_number14 (K := K) (d := d + 1) (tx := tx) (oc := oc) (rl := rl) (ou := ou) (tl := tl) (q := q) (sc := usc (usc sc 1401 (sk tp a + 1)) 1402 (-1)) (ar := usc ar 17 f) (k := 2) (a := sk tp a + 1) (w0 := -1) (by omega) ht hs hl rfl (by omega) rfl (by omega)
        rw [if_pos rfl] at hcall
        refine RQ.call rfl rfl hcall ?_
        refine RQ.hp (g1 := (HW (usc (usc sc 1401 ((nmR tp 2 (sk tp a + 1)).2.2)) 1402 ((nmR tp 2 (sk tp a + 1)).1)) (usc ar 17 f) tx oc rl ou tl, q)) (HW_e (by rw [usc_sw _ 1402 1401 _ _ rfl, usc_uu _ 1401 _ _, usc_uu _ 1402 _ _]; try rfl) rfl) ?_
        refine RQ.iast (z := (pw (lk tp a))) (v := ((nmR tp 2 (sk tp a + 1)).2.1)) (g1 := (HW (usc (usc sc 1401 ((nmR tp 2 (sk tp a + 1)).2.2)) 1402 ((nmR tp 2 (sk tp a + 1)).1)) (usc ar 17 (usz f (pw (lk tp a)) ((nmR tp 2 (sk tp a + 1)).2.1))) tx oc rl ou tl, q)) rfl rfl rfl rfl (by omega) (by decide) (HWa_17 (by funext j; unfold usc; cases hb : Nat.beq j 17 <;> first | rfl | (rw [Nat.eq_of_beq_eq_true hb]; rfl))) ?_
        refine RQ.seg 2 (pc' := 99) (L' := [some (.ref 14), some (.retAddr 0), some (.retAddr 6), some (.retAddr 7), some (.ref 17), some (.int (iI (orz t (pw (lk tp a))))), some (.int (iI i)), some (.int (iI (pw (lk tp a))))]) (st' := [.int (iI (pw (lk tp a))), .ref 17]) (g1 := (HW (usc (usc sc 1401 ((nmR tp 2 (sk tp a + 1)).2.2)) 1402 ((nmR tp 2 (sk tp a + 1)).1)) (usc ar 17 (usz f (pw (lk tp a)) ((nmR tp 2 (sk tp a + 1)).2.1))) tx oc rl ou tl, q)) rfl ?_
        refine RQ.ialdv (z := (pw (lk tp a))) (v := ((nmR tp 2 (sk tp a + 1)).2.1)) rfl rfl rfl (by omega) (by decide) (show (usz f (pw (lk tp a)) ((nmR tp 2 (sk tp a + 1)).2.1)) (pw (lk tp a)) = (nmR tp 2 (sk tp a + 1)).2.1 by rw [usz_s]) ?_
        refine RQ.seg 2 (pc' := 103) (L' := [some (.ref 14), some (.retAddr 0), some (.retAddr 6), some (.retAddr 7), some (.ref 17), some (.int (iI (orz t (pw (lk tp a))))), some (.int (iI i)), some (.int (iI (pw (lk tp a))))]) (st' := [.int (iI (pw (lk tp a))), .retAddr 6, .int (iI ((nmR tp 2 (sk tp a + 1)).2.1))]) (g1 := (HW (usc (usc sc 1401 ((nmR tp 2 (sk tp a + 1)).2.2)) 1402 ((nmR tp 2 (sk tp a + 1)).1)) (usc ar 17 (usz f (pw (lk tp a)) ((nmR tp 2 (sk tp a + 1)).2.1))) tx oc rl ou tl, q)) rfl ?_
        refine RQ.kald (z := (pw (lk tp a))) rfl rfl hK6 (by omega) (by decide) ?_
        refine RQ.if2 (a := ((nmR tp 2 (sk tp a + 1)).2.1)) (b := (kc6 (pw (lk tp a)))) rfl rfl rfl rfl (by omega) (by omega) (fun (h4 : (nmR tp 2 (sk tp a + 1)).2.1 < kc6 (pw (lk tp a))) => ?_) (fun (h4 : ¬ (nmR tp 2 (sk tp a + 1)).2.1 < kc6 (pw (lk tp a))) => ?_)
        · skip
          refine RQ.seg 5 (pc' := 126) (L' := [some (.ref 14), some (.retAddr 0), some (.retAddr 6), some (.retAddr 7), some (.ref 17), some (.int (iI (orz t (pw (lk tp a))))), some (.int (iI i)), some (.int (iI (pw (lk tp a))))]) (st' := [.int ((iI ((nmR tp 2 (sk tp a + 1)).2.2)) - (iI 1)), .ref 14]) (g1 := (HW (usc (usc sc 1401 ((nmR tp 2 (sk tp a + 1)).2.2)) 1402 ((nmR tp 2 (sk tp a + 1)).1)) (usc ar 17 (usz f (pw (lk tp a)) ((nmR tp 2 (sk tp a + 1)).2.1))) tx oc rl ou tl, q)) rfl ?_
          refine RQ.to (L' := [some (.ref 14), some (.retAddr 0), some (.retAddr 6), some (.retAddr 7), some (.ref 17), some (.int (iI (orz t (pw (lk tp a))))), some (.int (iI i)), some (.int (iI (pw (lk tp a))))]) (st' := [.int (iI ((nmR tp 2 (sk tp a + 1)).2.2 - 1)), .ref 14]) rfl (by simp only [iI_add, iI_sub, iI_mul, iI_neg]) ?_
          refine RQ.call rfl rfl (CallR.up (d := 1) (x_refuse14 (d := 0) (sc := usc (usc sc 1401 ((nmR tp 2 (sk tp a + 1)).2.2)) 1402 ((nmR tp 2 (sk tp a + 1)).1)) (ar := usc ar 17 (usz f (pw (lk tp a)) ((nmR tp 2 (sk tp a + 1)).2.1))) (p := (nmR tp 2 (sk tp a + 1)).2.2 - 1) (by show -1 ≤ (nmR tp 2 (sk tp a + 1)).1 ∧ (nmR tp 2 (sk tp a + 1)).1 ≤ 200; omega)) (by omega)) ?_
          refine RQ.hp (g1 := (HW (usc (usc sc 1401 ((nmR tp 2 (sk tp a + 1)).2.2)) 1402 (if (nmR tp 2 (sk tp a + 1)).1 = -1 then (nmR tp 2 (sk tp a + 1)).2.2 - 1 else (nmR tp 2 (sk tp a + 1)).1)) (usc ar 17 (usz f (pw (lk tp a)) ((nmR tp 2 (sk tp a + 1)).2.1))) tx oc rl ou tl, q)) (HW_e (by rw [usc_uu _ 1402 _ _]; try rfl) rfl) ?_
          refine RQ.seg 2 (pc' := 16) (L' := [some (.ref 14), some (.retAddr 0), some (.retAddr 6), some (.retAddr 7), some (.ref 17), some (.int (iI (orz t (pw (lk tp a))))), some (.int ((iI i) + (iI 1))), some (.int (iI (pw (lk tp a))))]) (st' := []) (g1 := (HW (usc (usc sc 1401 ((nmR tp 2 (sk tp a + 1)).2.2)) 1402 (if (nmR tp 2 (sk tp a + 1)).1 = -1 then (nmR tp 2 (sk tp a + 1)).2.2 - 1 else (nmR tp 2 (sk tp a + 1)).1)) (usc ar 17 (usz f (pw (lk tp a)) ((nmR tp 2 (sk tp a + 1)).2.1))) tx oc rl ou tl, q)) rfl ?_
          refine RQ.to (L' := [some (.ref 14), some (.retAddr 0), some (.retAddr 6), some (.retAddr 7), some (.ref 17), some (.int (iI (orz t (pw (lk tp a))))), some (.int (iI (i + 1))), some (.int (iI (pw (lk tp a))))]) (st' := []) (by simp only [iI_add, iI_sub, iI_mul, iI_neg]) rfl ?_
          have hor := orz4 (t := t) (i := pw (lk tp a)) (by omega) (by omega) hbt
          have hir := itR_r (tp := tp) (lo := kc6 (pw (lk tp a))) (hi := kc7 (pw (lk tp a))) (a := sk tp a + 1) (by omega)
          rw [its, if_neg (by omega), if_neg hbt] at hk
          have hwv : (itR tp (kc6 (pw (lk tp a))) (kc7 (pw (lk tp a))) (sk tp a + 1)).1 = if (nmR tp 2 (sk tp a + 1)).1 = -1 then (nmR tp 2 (sk tp a + 1)).2.2 - 1 else (nmR tp 2 (sk tp a + 1)).1 := by rcases Decidable.em ((nmR tp 2 (sk tp a + 1)).1 = -1) with hq | hq; (rw [itR_o hq (by omega), if_pos hq]); (rw [itR_n hq, if_neg hq])
          have hnf : ¬ (itR tp (kc6 (pw (lk tp a))) (kc7 (pw (lk tp a))) (sk tp a + 1)).1 = -1 := by rcases Decidable.em ((nmR tp 2 (sk tp a + 1)).1 = -1) with hq | hq; (intro z9; have := hir.2.2.2 z9; rw [itR_o hq (by omega)] at this; dsimp only at this; omega); (rw [itR_n hq]; exact hq)
          rw [if_pos hnf] at hk
          rw [hwv] at hk hnf hir
          generalize (if (nmR tp 2 (sk tp a + 1)).1 = -1 then (nmR tp 2 (sk tp a + 1)).2.2 - 1 else (nmR tp 2 (sk tp a + 1)).1) = wv at hk hnf hir ⊢
          refine RQ.seg 2 (pc' := 19) (L' := [some (.ref 14), some (.retAddr 0), some (.retAddr 6), some (.retAddr 7), some (.ref 17), some (.int (iI (orz t (pw (lk tp a))))), some (.int (iI (i + 1))), some (.int (iI (pw (lk tp a))))]) (st' := [.retAddr 0, .int (iI (i + 1))]) (g1 := (HW (usc (usc sc 1401 ((nmR tp 2 (sk tp a + 1)).2.2)) 1402 wv) (usc ar 17 (usz f (pw (lk tp a)) ((nmR tp 2 (sk tp a + 1)).2.1))) tx oc rl ou tl, q)) rfl ?_
          refine RQ.kalen rfl hK0 ?_
          refine RQ.if2 (a := (i + 1)) (b := 4) rfl rfl rfl rfl (by omega) (by omega) (fun (h5 : 4 < i + 1) => ?_) (fun (h5 : ¬ 4 < i + 1) => ?_)
          · skip
            refine RQ.ret rfl rfl ?_
            exact hk _ _ _ (by omega) (by omega) rfl (fun z => absurd z (by omega))
          · skip
            refine RQ.seg 1 (pc' := 24) (L' := [some (.ref 14), some (.retAddr 0), some (.retAddr 6), some (.retAddr 7), some (.ref 17), some (.int (iI (orz t (pw (lk tp a))))), some (.int (iI (i + 1))), some (.int (iI (pw (lk tp a))))]) (st' := [.ref 14]) (g1 := (HW (usc (usc sc 1401 ((nmR tp 2 (sk tp a + 1)).2.2)) 1402 wv) (usc ar 17 (usz f (pw (lk tp a)) ((nmR tp 2 (sk tp a + 1)).2.1))) tx oc rl ou tl, q)) rfl ?_
            refine RQ.call rfl rfl (CallR.up (d := 1) (x_fine14f (d := 0) (sc := usc (usc sc 1401 ((nmR tp 2 (sk tp a + 1)).2.2)) 1402 wv) (ar := usc ar 17 (usz f (pw (lk tp a)) ((nmR tp 2 (sk tp a + 1)).2.1))) (by show -1 ≤ wv ∧ wv ≤ 200; omega) (by show ¬ wv = -1; omega)) (by omega)) ?_
            refine RQ.seg 1 (pc' := 135) (L' := [some (.ref 14), some (.retAddr 0), some (.retAddr 6), some (.retAddr 7), some (.ref 17), some (.int (iI (orz t (pw (lk tp a))))), some (.int (iI (i + 1))), some (.int (iI (pw (lk tp a))))]) (st' := []) (g1 := (HW (usc (usc sc 1401 ((nmR tp 2 (sk tp a + 1)).2.2)) 1402 wv) (usc ar 17 (usz f (pw (lk tp a)) ((nmR tp 2 (sk tp a + 1)).2.1))) tx oc rl ou tl, q)) rfl ?_
            refine RQ.ret rfl rfl ?_
            exact hk _ _ _ (by omega) (by omega) rfl (fun z => absurd z (by omega))
        · skip
          refine RQ.seg 2 (pc' := 111) (L' := [some (.ref 14), some (.retAddr 0), some (.retAddr 6), some (.retAddr 7), some (.ref 17), some (.int (iI (orz t (pw (lk tp a))))), some (.int (iI i)), some (.int (iI (pw (lk tp a))))]) (st' := [.int (iI (pw (lk tp a))), .ref 17]) (g1 := (HW (usc (usc sc 1401 ((nmR tp 2 (sk tp a + 1)).2.2)) 1402 ((nmR tp 2 (sk tp a + 1)).1)) (usc ar 17 (usz f (pw (lk tp a)) ((nmR tp 2 (sk tp a + 1)).2.1))) tx oc rl ou tl, q)) rfl ?_
          refine RQ.ialdv (z := (pw (lk tp a))) (v := ((nmR tp 2 (sk tp a + 1)).2.1)) rfl rfl rfl (by omega) (by decide) (show (usz f (pw (lk tp a)) ((nmR tp 2 (sk tp a + 1)).2.1)) (pw (lk tp a)) = (nmR tp 2 (sk tp a + 1)).2.1 by rw [usz_s]) ?_
          refine RQ.seg 2 (pc' := 115) (L' := [some (.ref 14), some (.retAddr 0), some (.retAddr 6), some (.retAddr 7), some (.ref 17), some (.int (iI (orz t (pw (lk tp a))))), some (.int (iI i)), some (.int (iI (pw (lk tp a))))]) (st' := [.int (iI (pw (lk tp a))), .retAddr 7, .int (iI ((nmR tp 2 (sk tp a + 1)).2.1))]) (g1 := (HW (usc (usc sc 1401 ((nmR tp 2 (sk tp a + 1)).2.2)) 1402 ((nmR tp 2 (sk tp a + 1)).1)) (usc ar 17 (usz f (pw (lk tp a)) ((nmR tp 2 (sk tp a + 1)).2.1))) tx oc rl ou tl, q)) rfl ?_
          refine RQ.kald (z := (pw (lk tp a))) rfl rfl hK7 (by omega) (by decide) ?_
          refine RQ.if2 (a := ((nmR tp 2 (sk tp a + 1)).2.1)) (b := (kc7 (pw (lk tp a)))) rfl rfl rfl rfl (by omega) (by omega) (fun (h6 : (nmR tp 2 (sk tp a + 1)).2.1 ≤ kc7 (pw (lk tp a))) => ?_) (fun (h6 : ¬ (nmR tp 2 (sk tp a + 1)).2.1 ≤ kc7 (pw (lk tp a))) => ?_)
          · skip
            refine RQ.seg 2 (pc' := 16) (L' := [some (.ref 14), some (.retAddr 0), some (.retAddr 6), some (.retAddr 7), some (.ref 17), some (.int (iI (orz t (pw (lk tp a))))), some (.int ((iI i) + (iI 1))), some (.int (iI (pw (lk tp a))))]) (st' := []) (g1 := (HW (usc (usc sc 1401 ((nmR tp 2 (sk tp a + 1)).2.2)) 1402 ((nmR tp 2 (sk tp a + 1)).1)) (usc ar 17 (usz f (pw (lk tp a)) ((nmR tp 2 (sk tp a + 1)).2.1))) tx oc rl ou tl, q)) rfl ?_
            refine RQ.to (L' := [some (.ref 14), some (.retAddr 0), some (.retAddr 6), some (.retAddr 7), some (.ref 17), some (.int (iI (orz t (pw (lk tp a))))), some (.int (iI (i + 1))), some (.int (iI (pw (lk tp a))))]) (st' := []) (by simp only [iI_add, iI_sub, iI_mul, iI_neg]) rfl ?_
            have hor := orz4 (t := t) (i := pw (lk tp a)) (by omega) (by omega) hbt
            have hir := itR_r (tp := tp) (lo := kc6 (pw (lk tp a))) (hi := kc7 (pw (lk tp a))) (a := sk tp a + 1) (by omega)
            rw [its, if_neg (by omega), if_neg hbt] at hk
            rcases Decidable.em ((nmR tp 2 (sk tp a + 1)).1 = -1) with hq | hq
            · rw [itR_g hq (by omega), if_neg (by omega)] at hk
              have hx9 := hnr.2.1
              rw [hq]
              refine x_itw0_l ht hs hl hK0 hK6 hK7 m (i + 1) (orz t (pw (lk tp a))) (nmR tp 2 (sk tp a + 1)).2.2 _ (usz v (pw (lk tp a)) (nmR tp 2 (sk tp a + 1)).2.1) _ (by omega) (by omega) (by omega) (by omega) (by omega) (fun j j0 j1 => ?_) hk
              by_cases ej : j = pw (lk tp a)
              · rw [ej, usz_s, usz_s]
              · rw [usz_n ej, usz_n ej]; exact hf j j0 j1
            · rw [itR_n hq, if_pos hq] at hk
              refine RQ.seg 2 (pc' := 19) (L' := [some (.ref 14), some (.retAddr 0), some (.retAddr 6), some (.retAddr 7), some (.ref 17), some (.int (iI (orz t (pw (lk tp a))))), some (.int (iI (i + 1))), some (.int (iI (pw (lk tp a))))]) (st' := [.retAddr 0, .int (iI (i + 1))]) (g1 := (HW (usc (usc sc 1401 ((nmR tp 2 (sk tp a + 1)).2.2)) 1402 ((nmR tp 2 (sk tp a + 1)).1)) (usc ar 17 (usz f (pw (lk tp a)) ((nmR tp 2 (sk tp a + 1)).2.1))) tx oc rl ou tl, q)) rfl ?_
              refine RQ.kalen rfl hK0 ?_
              refine RQ.if2 (a := (i + 1)) (b := 4) rfl rfl rfl rfl (by omega) (by omega) (fun (h7 : 4 < i + 1) => ?_) (fun (h7 : ¬ 4 < i + 1) => ?_)
              · skip
                refine RQ.ret rfl rfl ?_
                exact hk _ _ _ (by omega) (by omega) rfl (fun z => absurd z (by omega))
              · skip
                refine RQ.seg 1 (pc' := 24) (L' := [some (.ref 14), some (.retAddr 0), some (.retAddr 6), some (.retAddr 7), some (.ref 17), some (.int (iI (orz t (pw (lk tp a))))), some (.int (iI (i + 1))), some (.int (iI (pw (lk tp a))))]) (st' := [.ref 14]) (g1 := (HW (usc (usc sc 1401 ((nmR tp 2 (sk tp a + 1)).2.2)) 1402 ((nmR tp 2 (sk tp a + 1)).1)) (usc ar 17 (usz f (pw (lk tp a)) ((nmR tp 2 (sk tp a + 1)).2.1))) tx oc rl ou tl, q)) rfl ?_
                refine RQ.call rfl rfl (CallR.up (d := 1) (x_fine14f (d := 0) (sc := usc (usc sc 1401 ((nmR tp 2 (sk tp a + 1)).2.2)) 1402 ((nmR tp 2 (sk tp a + 1)).1)) (ar := usc ar 17 (usz f (pw (lk tp a)) ((nmR tp 2 (sk tp a + 1)).2.1))) (by show -1 ≤ (nmR tp 2 (sk tp a + 1)).1 ∧ (nmR tp 2 (sk tp a + 1)).1 ≤ 200; omega) (by show ¬ (nmR tp 2 (sk tp a + 1)).1 = -1; omega)) (by omega)) ?_
                refine RQ.seg 1 (pc' := 135) (L' := [some (.ref 14), some (.retAddr 0), some (.retAddr 6), some (.retAddr 7), some (.ref 17), some (.int (iI (orz t (pw (lk tp a))))), some (.int (iI (i + 1))), some (.int (iI (pw (lk tp a))))]) (st' := []) (g1 := (HW (usc (usc sc 1401 ((nmR tp 2 (sk tp a + 1)).2.2)) 1402 ((nmR tp 2 (sk tp a + 1)).1)) (usc ar 17 (usz f (pw (lk tp a)) ((nmR tp 2 (sk tp a + 1)).2.1))) tx oc rl ou tl, q)) rfl ?_
                refine RQ.ret rfl rfl ?_
                exact hk _ _ _ (by omega) (by omega) rfl (fun z => absurd z (by omega))
          · skip
            refine RQ.seg 5 (pc' := 126) (L' := [some (.ref 14), some (.retAddr 0), some (.retAddr 6), some (.retAddr 7), some (.ref 17), some (.int (iI (orz t (pw (lk tp a))))), some (.int (iI i)), some (.int (iI (pw (lk tp a))))]) (st' := [.int ((iI ((nmR tp 2 (sk tp a + 1)).2.2)) - (iI 1)), .ref 14]) (g1 := (HW (usc (usc sc 1401 ((nmR tp 2 (sk tp a + 1)).2.2)) 1402 ((nmR tp 2 (sk tp a + 1)).1)) (usc ar 17 (usz f (pw (lk tp a)) ((nmR tp 2 (sk tp a + 1)).2.1))) tx oc rl ou tl, q)) rfl ?_
            refine RQ.to (L' := [some (.ref 14), some (.retAddr 0), some (.retAddr 6), some (.retAddr 7), some (.ref 17), some (.int (iI (orz t (pw (lk tp a))))), some (.int (iI i)), some (.int (iI (pw (lk tp a))))]) (st' := [.int (iI ((nmR tp 2 (sk tp a + 1)).2.2 - 1)), .ref 14]) rfl (by simp only [iI_add, iI_sub, iI_mul, iI_neg]) ?_
            refine RQ.call rfl rfl (CallR.up (d := 1) (x_refuse14 (d := 0) (sc := usc (usc sc 1401 ((nmR tp 2 (sk tp a + 1)).2.2)) 1402 ((nmR tp 2 (sk tp a + 1)).1)) (ar := usc ar 17 (usz f (pw (lk tp a)) ((nmR tp 2 (sk tp a + 1)).2.1))) (p := (nmR tp 2 (sk tp a + 1)).2.2 - 1) (by show -1 ≤ (nmR tp 2 (sk tp a + 1)).1 ∧ (nmR tp 2 (sk tp a + 1)).1 ≤ 200; omega)) (by omega)) ?_
            refine RQ.hp (g1 := (HW (usc (usc sc 1401 ((nmR tp 2 (sk tp a + 1)).2.2)) 1402 (if (nmR tp 2 (sk tp a + 1)).1 = -1 then (nmR tp 2 (sk tp a + 1)).2.2 - 1 else (nmR tp 2 (sk tp a + 1)).1)) (usc ar 17 (usz f (pw (lk tp a)) ((nmR tp 2 (sk tp a + 1)).2.1))) tx oc rl ou tl, q)) (HW_e (by rw [usc_uu _ 1402 _ _]; try rfl) rfl) ?_
            refine RQ.seg 2 (pc' := 16) (L' := [some (.ref 14), some (.retAddr 0), some (.retAddr 6), some (.retAddr 7), some (.ref 17), some (.int (iI (orz t (pw (lk tp a))))), some (.int ((iI i) + (iI 1))), some (.int (iI (pw (lk tp a))))]) (st' := []) (g1 := (HW (usc (usc sc 1401 ((nmR tp 2 (sk tp a + 1)).2.2)) 1402 (if (nmR tp 2 (sk tp a + 1)).1 = -1 then (nmR tp 2 (sk tp a + 1)).2.2 - 1 else (nmR tp 2 (sk tp a + 1)).1)) (usc ar 17 (usz f (pw (lk tp a)) ((nmR tp 2 (sk tp a + 1)).2.1))) tx oc rl ou tl, q)) rfl ?_
            refine RQ.to (L' := [some (.ref 14), some (.retAddr 0), some (.retAddr 6), some (.retAddr 7), some (.ref 17), some (.int (iI (orz t (pw (lk tp a))))), some (.int (iI (i + 1))), some (.int (iI (pw (lk tp a))))]) (st' := []) (by simp only [iI_add, iI_sub, iI_mul, iI_neg]) rfl ?_
            have hor := orz4 (t := t) (i := pw (lk tp a)) (by omega) (by omega) hbt
            have hir := itR_r (tp := tp) (lo := kc6 (pw (lk tp a))) (hi := kc7 (pw (lk tp a))) (a := sk tp a + 1) (by omega)
            rw [its, if_neg (by omega), if_neg hbt] at hk
            have hwv : (itR tp (kc6 (pw (lk tp a))) (kc7 (pw (lk tp a))) (sk tp a + 1)).1 = if (nmR tp 2 (sk tp a + 1)).1 = -1 then (nmR tp 2 (sk tp a + 1)).2.2 - 1 else (nmR tp 2 (sk tp a + 1)).1 := by rcases Decidable.em ((nmR tp 2 (sk tp a + 1)).1 = -1) with hq | hq; (rw [itR_o hq (by omega), if_pos hq]); (rw [itR_n hq, if_neg hq])
            have hnf : ¬ (itR tp (kc6 (pw (lk tp a))) (kc7 (pw (lk tp a))) (sk tp a + 1)).1 = -1 := by rcases Decidable.em ((nmR tp 2 (sk tp a + 1)).1 = -1) with hq | hq; (intro z9; have := hir.2.2.2 z9; rw [itR_o hq (by omega)] at this; dsimp only at this; omega); (rw [itR_n hq]; exact hq)
            rw [if_pos hnf] at hk
            rw [hwv] at hk hnf hir
            generalize (if (nmR tp 2 (sk tp a + 1)).1 = -1 then (nmR tp 2 (sk tp a + 1)).2.2 - 1 else (nmR tp 2 (sk tp a + 1)).1) = wv at hk hnf hir ⊢
            refine RQ.seg 2 (pc' := 19) (L' := [some (.ref 14), some (.retAddr 0), some (.retAddr 6), some (.retAddr 7), some (.ref 17), some (.int (iI (orz t (pw (lk tp a))))), some (.int (iI (i + 1))), some (.int (iI (pw (lk tp a))))]) (st' := [.retAddr 0, .int (iI (i + 1))]) (g1 := (HW (usc (usc sc 1401 ((nmR tp 2 (sk tp a + 1)).2.2)) 1402 wv) (usc ar 17 (usz f (pw (lk tp a)) ((nmR tp 2 (sk tp a + 1)).2.1))) tx oc rl ou tl, q)) rfl ?_
            refine RQ.kalen rfl hK0 ?_
            refine RQ.if2 (a := (i + 1)) (b := 4) rfl rfl rfl rfl (by omega) (by omega) (fun (h8 : 4 < i + 1) => ?_) (fun (h8 : ¬ 4 < i + 1) => ?_)
            · skip
              refine RQ.ret rfl rfl ?_
              exact hk _ _ _ (by omega) (by omega) rfl (fun z => absurd z (by omega))
            · skip
              refine RQ.seg 1 (pc' := 24) (L' := [some (.ref 14), some (.retAddr 0), some (.retAddr 6), some (.retAddr 7), some (.ref 17), some (.int (iI (orz t (pw (lk tp a))))), some (.int (iI (i + 1))), some (.int (iI (pw (lk tp a))))]) (st' := [.ref 14]) (g1 := (HW (usc (usc sc 1401 ((nmR tp 2 (sk tp a + 1)).2.2)) 1402 wv) (usc ar 17 (usz f (pw (lk tp a)) ((nmR tp 2 (sk tp a + 1)).2.1))) tx oc rl ou tl, q)) rfl ?_
              refine RQ.call rfl rfl (CallR.up (d := 1) (x_fine14f (d := 0) (sc := usc (usc sc 1401 ((nmR tp 2 (sk tp a + 1)).2.2)) 1402 wv) (ar := usc ar 17 (usz f (pw (lk tp a)) ((nmR tp 2 (sk tp a + 1)).2.1))) (by show -1 ≤ wv ∧ wv ≤ 200; omega) (by show ¬ wv = -1; omega)) (by omega)) ?_
              refine RQ.seg 1 (pc' := 135) (L' := [some (.ref 14), some (.retAddr 0), some (.retAddr 6), some (.retAddr 7), some (.ref 17), some (.int (iI (orz t (pw (lk tp a))))), some (.int (iI (i + 1))), some (.int (iI (pw (lk tp a))))]) (st' := []) (g1 := (HW (usc (usc sc 1401 ((nmR tp 2 (sk tp a + 1)).2.2)) 1402 wv) (usc ar 17 (usz f (pw (lk tp a)) ((nmR tp 2 (sk tp a + 1)).2.1))) tx oc rl ou tl, q)) rfl ?_
              refine RQ.ret rfl rfl ?_
              exact hk _ _ _ (by omega) (by omega) rfl (fun z => absurd z (by omega))
    · skip
      refine RQ.ret rfl rfl ?_
      rw [its, if_pos (by omega)] at hk
      exact hk _ _ _ (by omega) (by omega) rfl (fun _ => ⟨rfl, hf⟩)
theorem x_itw1_l {K : PK} {d : Nat} {sc : Nat → Int} {ar : Nat → Int → Int} {tx oc : Nat} {rl : Nat → Option Nat} {ou : Nat → Int64} {tl : List PO} {q : Nat × Nat} {Q : Option Value → PG → Prop} {tp : List Int} (ht : TpOK tp) (hs : sc 101 = (tp.length : Int)) (hl : LAt (fun v => v) (ar 2) tp) (hK0 : K 0 = some (4, zA kc0)) (hK6 : K 6 = some (4, zA kc6)) (hK7 : K 7 = some (4, zA kc7)) : ∀ (m : Nat) (i t a : Int) (f v : Int → Int) (e7 : Option Value) (hm : i + m = 5) (hi : 0 ≤ i) (htr : 0 ≤ t ∧ t < 16) (hpc : pc4 t = i) (ha : 0 ≤ a ∧ a ≤ (tp.length : Int)) (hf : ∀ j, 0 ≤ j → j < 4 → f j = v j) (hk : ∀ a' w' f', (-1 ≤ w' ∧ w' ≤ 160) → (0 ≤ a' ∧ a' ≤ (tp.length : Int)) → w' = (its pw kc6 kc7 tp m t a v).1 → ((its pw kc6 kc7 tp m t a v).1 = -1 → a' = (its pw kc6 kc7 tp m t a v).2.1 ∧ ∀ j, 0 ≤ j → j < 4 → f' j = (its pw kc6 kc7 tp m t a v).2.2 j) → Q none (HW (usc (usc sc 1401 a') 1402 w') (usc ar 18 f') tx oc rl ou tl, q)), RQ K (d + 3) 3 false none cd27 16 [some (.ref 14), some (.retAddr 0), some (.retAddr 6), some (.retAddr 7), some (.ref 18), some (.int (iI t)), some (.int (iI i)), e7] [] (HW (usc (usc sc 1401 a) 1402 (-1)) (usc ar 18 f) tx oc rl ou tl, q) Q
  | 0, i, t, a, f, v, e7, hm, hi, htr, hpc, ha, hf, hk => by
    have ht1 := ht.1
    refine RQ.seg 2 (pc' := 19) (L' := [some (.ref 14), some (.retAddr 0), some (.retAddr 6), some (.retAddr 7), some (.ref 18), some (.int (iI t)), some (.int (iI i)), e7]) (st' := [.retAddr 0, .int (iI i)]) (g1 := (HW (usc (usc sc 1401 a) 1402 (-1)) (usc ar 18 f) tx oc rl ou tl, q)) rfl ?_
    refine RQ.kalen rfl hK0 ?_
    refine RQ.if2 (a := i) (b := 4) rfl rfl rfl rfl (by omega) (by omega) (fun _ => ?_) (fun (q : ¬ 4 < i) => absurd (show 4 < i from by omega) q)
    refine RQ.ret rfl rfl ?_
    exact hk _ _ _ (by omega) (by omega) rfl (fun _ => ⟨rfl, hf⟩)
  | m + 1, i, t, a, f, v, e7, hm, hi, htr, hpc, ha, hf, hk => by
    have ht1 := ht.1
    have hsk := sk_r (tp := tp) ha.2
    have hlr := tch_r ht (sk tp a)
    have hlk : 0 ≤ lk tp a ∧ lk tp a ≤ 255 := hlr
    have hpr := pw_r (lk tp a)
    have hkr : lk tp a ≠ 0 → 0 ≤ sk tp a ∧ sk tp a < (tp.length : Int) := fun z => tch_pos z
    have hkA := kr6 (pw (lk tp a))
    have hkB := kr7 (pw (lk tp a))
    refine RQ.seg 2 (pc' := 19) (L' := [some (.ref 14), some (.retAddr 0), some (.retAddr 6), some (.retAddr 7), some (.ref 18), some (.int (iI t)), some (.int (iI i)), e7]) (st' := [.retAddr 0, .int (iI i)]) (g1 := (HW (usc (usc sc 1401 a) 1402 (-1)) (usc ar 18 f) tx oc rl ou tl, q)) rfl ?_
    refine RQ.kalen rfl hK0 ?_
    refine RQ.if2 (a := i) (b := 4) rfl rfl rfl rfl (by omega) (by omega) (fun (q : 4 < i) => absurd q (show ¬ 4 < i from by omega)) (fun _ => ?_)
    refine RQ.seg 1 (pc' := 24) (L' := [some (.ref 14), some (.retAddr 0), some (.retAddr 6), some (.retAddr 7), some (.ref 18), some (.int (iI t)), some (.int (iI i)), e7]) (st' := [.ref 14]) (g1 := (HW (usc (usc sc 1401 a) 1402 (-1)) (usc ar 18 f) tx oc rl ou tl, q)) rfl ?_
    refine RQ.call rfl rfl (CallR.up (d := 1) (x_fine14t (d := 0) (sc := usc (usc sc 1401 a) 1402 (-1)) (ar := usc ar 18 f) (by show -1 ≤ (-1 : Int) ∧ (-1 : Int) ≤ 200; omega) rfl) (by omega)) ?_
    refine RQ.seg 3 (pc' := 32) (L' := [some (.ref 14), some (.retAddr 0), some (.retAddr 6), some (.retAddr 7), some (.ref 18), some (.int (iI t)), some (.int (iI i)), e7]) (st' := [.ref 14, .retAddr 0]) (g1 := (HW (usc (usc sc 1401 a) 1402 (-1)) (usc ar 18 f) tx oc rl ou tl, q)) rfl ?_
    refine RQ.call rfl rfl (CallR.up (d := 1) (x_look14 (d := 0) (sc := usc (usc sc 1401 a) 1402 (-1)) (ar := usc ar 18 f) (a := a) ht hs hl rfl ha) (by omega)) ?_
    refine RQ.hp (g1 := (HW (usc (usc sc 1401 (sk tp a)) 1402 (-1)) (usc ar 18 f) tx oc rl ou tl, q)) (HW_e (by rw [usc_sw _ 1402 1401 _ _ rfl, usc_uu _ 1401 _ _]; try rfl) rfl) ?_
    refine RQ.call rfl rfl (CallR.up (d := 1) (x_place0 (d := 0) (c := lk tp a) hK0 (by omega)) (by omega)) ?_
    refine RQ.seg 3 (pc' := 43) (L' := [some (.ref 14), some (.retAddr 0), some (.retAddr 6), some (.retAddr 7), some (.ref 18), some (.int (iI t)), some (.int (iI i)), some (.int (iI (pw (lk tp a))))]) (st' := [.int (iI (-1)), .int (iI (pw (lk tp a)))]) (g1 := (HW (usc (usc sc 1401 (sk tp a)) 1402 (-1)) (usc ar 18 f) tx oc rl ou tl, q)) rfl ?_
    refine RQ.if2 (a := (pw (lk tp a))) (b := (-1)) rfl rfl rfl rfl (by omega) (by omega) (fun (h2 : pw (lk tp a) ≠ (-1)) => ?_) (fun (h2 : ¬ pw (lk tp a) ≠ (-1)) => ?_)
    · skip
      refine RQ.seg 3 (pc' := 52) (L' := [some (.ref 14), some (.retAddr 0), some (.retAddr 6), some (.retAddr 7), some (.ref 18), some (.int (iI t)), some (.int (iI i)), some (.int (iI (pw (lk tp a))))]) (st' := [.int (iI (pw (lk tp a))), .int (iI 1), .int (iI t)]) (g1 := (HW (usc (usc sc 1401 (sk tp a)) 1402 (-1)) (usc ar 18 f) tx oc rl ou tl, q)) rfl ?_
      refine RQ.ishl1 (b := (pw (lk tp a))) rfl rfl rfl (by omega) ?_
      have hp2 := p2_r (b := pw (lk tp a)) (by omega)
      refine RQ.iandv (a := t) (b := pw (lk tp a)) rfl rfl rfl (by omega) (fun hbt => ?_) (fun hbt => ?_)
      · skip
        refine RQ.if1 (a := (2 ^ (pw (lk tp a)).toNat)) rfl rfl rfl (by omega) (fun (q : 2 ^ (pw (lk tp a)).toNat = 0) => absurd q (show ¬ 2 ^ (pw (lk tp a)).toNat = 0 from by omega)) (fun _ => ?_)
        refine RQ.seg 3 (pc' := 62) (L' := [some (.ref 14), some (.retAddr 0), some (.retAddr 6), some (.retAddr 7), some (.ref 18), some (.int (iI t)), some (.int (iI i)), some (.int (iI (pw (lk tp a))))]) (st' := [.int (iI (sk tp a)), .ref 14]) (g1 := (HW (usc (usc sc 1401 (sk tp a)) 1402 (-1)) (usc ar 18 f) tx oc rl ou tl, q)) rfl ?_
        refine RQ.call rfl rfl (CallR.up (d := 1) (x_refuse14 (d := 0) (sc := usc (usc sc 1401 (sk tp a)) 1402 (-1)) (ar := usc ar 18 f) (p := sk tp a) (by show -1 ≤ (-1) ∧ (-1) ≤ 200; omega)) (by omega)) ?_
        refine RQ.hp (g1 := (HW (usc (usc sc 1401 (sk tp a)) 1402 (sk tp a)) (usc ar 18 f) tx oc rl ou tl, q)) (HW_e (by rw [usc_uu _ 1402 _ _]; try rfl) rfl) ?_
        refine RQ.ret rfl rfl ?_
        rw [its, if_neg (by omega), if_pos hbt] at hk
        have hkq := hkr (hpr.2.2 (by omega))
        exact hk _ _ _ (by omega) (by omega) rfl (fun z => absurd z (by omega))
      · skip
        refine RQ.seg 4 (pc' := 71) (L' := [some (.ref 14), some (.retAddr 0), some (.retAddr 6), some (.retAddr 7), some (.ref 18), some (.int (iI t)), some (.int (iI i)), some (.int (iI (pw (lk tp a))))]) (st' := [.int (iI (pw (lk tp a))), .int (iI 1), .int (iI t)]) (g1 := (HW (usc (usc sc 1401 (sk tp a)) 1402 (-1)) (usc ar 18 f) tx oc rl ou tl, q)) rfl ?_
        refine RQ.ishl1 (b := (pw (lk tp a))) rfl rfl rfl (by omega) ?_
        refine RQ.ior (a := t) (b := (pw (lk tp a))) rfl rfl rfl (by omega) (by omega) ?_
        refine RQ.seg 6 (pc' := 82) (L' := [some (.ref 14), some (.retAddr 0), some (.retAddr 6), some (.retAddr 7), some (.ref 18), some (.int (iI (orz t (pw (lk tp a))))), some (.int (iI i)), some (.int (iI (pw (lk tp a))))]) (st' := [.int ((iI (sk tp a)) + (iI 1)), .ref 14]) (g1 := (HW (usc (usc sc 1401 (sk tp a)) 1402 (-1)) (usc ar 18 f) tx oc rl ou tl, q)) rfl ?_
        refine RQ.to (L' := [some (.ref 14), some (.retAddr 0), some (.retAddr 6), some (.retAddr 7), some (.ref 18), some (.int (iI (orz t (pw (lk tp a))))), some (.int (iI i)), some (.int (iI (pw (lk tp a))))]) (st' := [.int (iI (sk tp a + 1)), .ref 14]) rfl (by simp only [iI_add, iI_sub, iI_mul, iI_neg]) ?_
        refine RQ.seg 5 (pc' := 91) (L' := [some (.ref 14), some (.retAddr 0), some (.retAddr 6), some (.retAddr 7), some (.ref 18), some (.int (iI (orz t (pw (lk tp a))))), some (.int (iI i)), some (.int (iI (pw (lk tp a))))]) (st' := [.int (iI 2), .ref 14, .int (iI (pw (lk tp a))), .ref 18]) (g1 := (HW (usc (usc sc 1401 (sk tp a + 1)) 1402 (-1)) (usc ar 18 f) tx oc rl ou tl, q)) rfl ?_
        have hne : lk tp a ≠ 0 := hpr.2.2 (by omega)
        have hkq := hkr hne
        have hnr := nmR_r (tp := tp) (k := 2) (a := sk tp a + 1) (by omega) (by omega)
        have hcall := x_number14 (K := K) (d := d + 1) (tx := tx) (oc := oc) (rl := rl) (ou := ou) (tl := tl) (q := q) (sc := usc (usc sc 1401 (sk tp a + 1)) 1402 (-1)) (ar := usc ar 18 f) (k := 2) (a := sk tp a + 1) (w0 := -1) (by omega) ht hs hl rfl (by omega) rfl (by omega)
        rw [if_pos rfl] at hcall
        refine RQ.call rfl rfl hcall ?_
        refine RQ.hp (g1 := (HW (usc (usc sc 1401 ((nmR tp 2 (sk tp a + 1)).2.2)) 1402 ((nmR tp 2 (sk tp a + 1)).1)) (usc ar 18 f) tx oc rl ou tl, q)) (HW_e (by rw [usc_sw _ 1402 1401 _ _ rfl, usc_uu _ 1401 _ _, usc_uu _ 1402 _ _]; try rfl) rfl) ?_
        refine RQ.iast (z := (pw (lk tp a))) (v := ((nmR tp 2 (sk tp a + 1)).2.1)) (g1 := (HW (usc (usc sc 1401 ((nmR tp 2 (sk tp a + 1)).2.2)) 1402 ((nmR tp 2 (sk tp a + 1)).1)) (usc ar 18 (usz f (pw (lk tp a)) ((nmR tp 2 (sk tp a + 1)).2.1))) tx oc rl ou tl, q)) rfl rfl rfl rfl (by omega) (by decide) (HWa_18 (by funext j; unfold usc; cases hb : Nat.beq j 18 <;> first | rfl | (rw [Nat.eq_of_beq_eq_true hb]; rfl))) ?_
        refine RQ.seg 2 (pc' := 99) (L' := [some (.ref 14), some (.retAddr 0), some (.retAddr 6), some (.retAddr 7), some (.ref 18), some (.int (iI (orz t (pw (lk tp a))))), some (.int (iI i)), some (.int (iI (pw (lk tp a))))]) (st' := [.int (iI (pw (lk tp a))), .ref 18]) (g1 := (HW (usc (usc sc 1401 ((nmR tp 2 (sk tp a + 1)).2.2)) 1402 ((nmR tp 2 (sk tp a + 1)).1)) (usc ar 18 (usz f (pw (lk tp a)) ((nmR tp 2 (sk tp a + 1)).2.1))) tx oc rl ou tl, q)) rfl ?_
        refine RQ.ialdv (z := (pw (lk tp a))) (v := ((nmR tp 2 (sk tp a + 1)).2.1)) rfl rfl rfl (by omega) (by decide) (show (usz f (pw (lk tp a)) ((nmR tp 2 (sk tp a + 1)).2.1)) (pw (lk tp a)) = (nmR tp 2 (sk tp a + 1)).2.1 by rw [usz_s]) ?_
        refine RQ.seg 2 (pc' := 103) (L' := [some (.ref 14), some (.retAddr 0), some (.retAddr 6), some (.retAddr 7), some (.ref 18), some (.int (iI (orz t (pw (lk tp a))))), some (.int (iI i)), some (.int (iI (pw (lk tp a))))]) (st' := [.int (iI (pw (lk tp a))), .retAddr 6, .int (iI ((nmR tp 2 (sk tp a + 1)).2.1))]) (g1 := (HW (usc (usc sc 1401 ((nmR tp 2 (sk tp a + 1)).2.2)) 1402 ((nmR tp 2 (sk tp a + 1)).1)) (usc ar 18 (usz f (pw (lk tp a)) ((nmR tp 2 (sk tp a + 1)).2.1))) tx oc rl ou tl, q)) rfl ?_
        refine RQ.kald (z := (pw (lk tp a))) rfl rfl hK6 (by omega) (by decide) ?_
        refine RQ.if2 (a := ((nmR tp 2 (sk tp a + 1)).2.1)) (b := (kc6 (pw (lk tp a)))) rfl rfl rfl rfl (by omega) (by omega) (fun (h4 : (nmR tp 2 (sk tp a + 1)).2.1 < kc6 (pw (lk tp a))) => ?_) (fun (h4 : ¬ (nmR tp 2 (sk tp a + 1)).2.1 < kc6 (pw (lk tp a))) => ?_)
        · skip
          refine RQ.seg 5 (pc' := 126) (L' := [some (.ref 14), some (.retAddr 0), some (.retAddr 6), some (.retAddr 7), some (.ref 18), some (.int (iI (orz t (pw (lk tp a))))), some (.int (iI i)), some (.int (iI (pw (lk tp a))))]) (st' := [.int ((iI ((nmR tp 2 (sk tp a + 1)).2.2)) - (iI 1)), .ref 14]) (g1 := (HW (usc (usc sc 1401 ((nmR tp 2 (sk tp a + 1)).2.2)) 1402 ((nmR tp 2 (sk tp a + 1)).1)) (usc ar 18 (usz f (pw (lk tp a)) ((nmR tp 2 (sk tp a + 1)).2.1))) tx oc rl ou tl, q)) rfl ?_
          refine RQ.to (L' := [some (.ref 14), some (.retAddr 0), some (.retAddr 6), some (.retAddr 7), some (.ref 18), some (.int (iI (orz t (pw (lk tp a))))), some (.int (iI i)), some (.int (iI (pw (lk tp a))))]) (st' := [.int (iI ((nmR tp 2 (sk tp a + 1)).2.2 - 1)), .ref 14]) rfl (by simp only [iI_add, iI_sub, iI_mul, iI_neg]) ?_
          refine RQ.call rfl rfl (CallR.up (d := 1) (x_refuse14 (d := 0) (sc := usc (usc sc 1401 ((nmR tp 2 (sk tp a + 1)).2.2)) 1402 ((nmR tp 2 (sk tp a + 1)).1)) (ar := usc ar 18 (usz f (pw (lk tp a)) ((nmR tp 2 (sk tp a + 1)).2.1))) (p := (nmR tp 2 (sk tp a + 1)).2.2 - 1) (by show -1 ≤ (nmR tp 2 (sk tp a + 1)).1 ∧ (nmR tp 2 (sk tp a + 1)).1 ≤ 200; omega)) (by omega)) ?_
          refine RQ.hp (g1 := (HW (usc (usc sc 1401 ((nmR tp 2 (sk tp a + 1)).2.2)) 1402 (if (nmR tp 2 (sk tp a + 1)).1 = -1 then (nmR tp 2 (sk tp a + 1)).2.2 - 1 else (nmR tp 2 (sk tp a + 1)).1)) (usc ar 18 (usz f (pw (lk tp a)) ((nmR tp 2 (sk tp a + 1)).2.1))) tx oc rl ou tl, q)) (HW_e (by rw [usc_uu _ 1402 _ _]; try rfl) rfl) ?_
          refine RQ.seg 2 (pc' := 16) (L' := [some (.ref 14), some (.retAddr 0), some (.retAddr 6), some (.retAddr 7), some (.ref 18), some (.int (iI (orz t (pw (lk tp a))))), some (.int ((iI i) + (iI 1))), some (.int (iI (pw (lk tp a))))]) (st' := []) (g1 := (HW (usc (usc sc 1401 ((nmR tp 2 (sk tp a + 1)).2.2)) 1402 (if (nmR tp 2 (sk tp a + 1)).1 = -1 then (nmR tp 2 (sk tp a + 1)).2.2 - 1 else (nmR tp 2 (sk tp a + 1)).1)) (usc ar 18 (usz f (pw (lk tp a)) ((nmR tp 2 (sk tp a + 1)).2.1))) tx oc rl ou tl, q)) rfl ?_
          refine RQ.to (L' := [some (.ref 14), some (.retAddr 0), some (.retAddr 6), some (.retAddr 7), some (.ref 18), some (.int (iI (orz t (pw (lk tp a))))), some (.int (iI (i + 1))), some (.int (iI (pw (lk tp a))))]) (st' := []) (by simp only [iI_add, iI_sub, iI_mul, iI_neg]) rfl ?_
          have hor := orz4 (t := t) (i := pw (lk tp a)) (by omega) (by omega) hbt
          have hir := itR_r (tp := tp) (lo := kc6 (pw (lk tp a))) (hi := kc7 (pw (lk tp a))) (a := sk tp a + 1) (by omega)
          rw [its, if_neg (by omega), if_neg hbt] at hk
          have hwv : (itR tp (kc6 (pw (lk tp a))) (kc7 (pw (lk tp a))) (sk tp a + 1)).1 = if (nmR tp 2 (sk tp a + 1)).1 = -1 then (nmR tp 2 (sk tp a + 1)).2.2 - 1 else (nmR tp 2 (sk tp a + 1)).1 := by rcases Decidable.em ((nmR tp 2 (sk tp a + 1)).1 = -1) with hq | hq; (rw [itR_o hq (by omega), if_pos hq]); (rw [itR_n hq, if_neg hq])
          have hnf : ¬ (itR tp (kc6 (pw (lk tp a))) (kc7 (pw (lk tp a))) (sk tp a + 1)).1 = -1 := by rcases Decidable.em ((nmR tp 2 (sk tp a + 1)).1 = -1) with hq | hq; (intro z9; have := hir.2.2.2 z9; rw [itR_o hq (by omega)] at this; dsimp only at this; omega); (rw [itR_n hq]; exact hq)
          rw [if_pos hnf] at hk
          rw [hwv] at hk hnf hir
          generalize (if (nmR tp 2 (sk tp a + 1)).1 = -1 then (nmR tp 2 (sk tp a + 1)).2.2 - 1 else (nmR tp 2 (sk tp a + 1)).1) = wv at hk hnf hir ⊢
          refine RQ.seg 2 (pc' := 19) (L' := [some (.ref 14), some (.retAddr 0), some (.retAddr 6), some (.retAddr 7), some (.ref 18), some (.int (iI (orz t (pw (lk tp a))))), some (.int (iI (i + 1))), some (.int (iI (pw (lk tp a))))]) (st' := [.retAddr 0, .int (iI (i + 1))]) (g1 := (HW (usc (usc sc 1401 ((nmR tp 2 (sk tp a + 1)).2.2)) 1402 wv) (usc ar 18 (usz f (pw (lk tp a)) ((nmR tp 2 (sk tp a + 1)).2.1))) tx oc rl ou tl, q)) rfl ?_
          refine RQ.kalen rfl hK0 ?_
          refine RQ.if2 (a := (i + 1)) (b := 4) rfl rfl rfl rfl (by omega) (by omega) (fun (h5 : 4 < i + 1) => ?_) (fun (h5 : ¬ 4 < i + 1) => ?_)
          · skip
            refine RQ.ret rfl rfl ?_
            exact hk _ _ _ (by omega) (by omega) rfl (fun z => absurd z (by omega))
          · skip
            refine RQ.seg 1 (pc' := 24) (L' := [some (.ref 14), some (.retAddr 0), some (.retAddr 6), some (.retAddr 7), some (.ref 18), some (.int (iI (orz t (pw (lk tp a))))), some (.int (iI (i + 1))), some (.int (iI (pw (lk tp a))))]) (st' := [.ref 14]) (g1 := (HW (usc (usc sc 1401 ((nmR tp 2 (sk tp a + 1)).2.2)) 1402 wv) (usc ar 18 (usz f (pw (lk tp a)) ((nmR tp 2 (sk tp a + 1)).2.1))) tx oc rl ou tl, q)) rfl ?_
            refine RQ.call rfl rfl (CallR.up (d := 1) (x_fine14f (d := 0) (sc := usc (usc sc 1401 ((nmR tp 2 (sk tp a + 1)).2.2)) 1402 wv) (ar := usc ar 18 (usz f (pw (lk tp a)) ((nmR tp 2 (sk tp a + 1)).2.1))) (by show -1 ≤ wv ∧ wv ≤ 200; omega) (by show ¬ wv = -1; omega)) (by omega)) ?_
            refine RQ.seg 1 (pc' := 135) (L' := [some (.ref 14), some (.retAddr 0), some (.retAddr 6), some (.retAddr 7), some (.ref 18), some (.int (iI (orz t (pw (lk tp a))))), some (.int (iI (i + 1))), some (.int (iI (pw (lk tp a))))]) (st' := []) (g1 := (HW (usc (usc sc 1401 ((nmR tp 2 (sk tp a + 1)).2.2)) 1402 wv) (usc ar 18 (usz f (pw (lk tp a)) ((nmR tp 2 (sk tp a + 1)).2.1))) tx oc rl ou tl, q)) rfl ?_
            refine RQ.ret rfl rfl ?_
            exact hk _ _ _ (by omega) (by omega) rfl (fun z => absurd z (by omega))
        · skip
          refine RQ.seg 2 (pc' := 111) (L' := [some (.ref 14), some (.retAddr 0), some (.retAddr 6), some (.retAddr 7), some (.ref 18), some (.int (iI (orz t (pw (lk tp a))))), some (.int (iI i)), some (.int (iI (pw (lk tp a))))]) (st' := [.int (iI (pw (lk tp a))), .ref 18]) (g1 := (HW (usc (usc sc 1401 ((nmR tp 2 (sk tp a + 1)).2.2)) 1402 ((nmR tp 2 (sk tp a + 1)).1)) (usc ar 18 (usz f (pw (lk tp a)) ((nmR tp 2 (sk tp a + 1)).2.1))) tx oc rl ou tl, q)) rfl ?_
          refine RQ.ialdv (z := (pw (lk tp a))) (v := ((nmR tp 2 (sk tp a + 1)).2.1)) rfl rfl rfl (by omega) (by decide) (show (usz f (pw (lk tp a)) ((nmR tp 2 (sk tp a + 1)).2.1)) (pw (lk tp a)) = (nmR tp 2 (sk tp a + 1)).2.1 by rw [usz_s]) ?_
          refine RQ.seg 2 (pc' := 115) (L' := [some (.ref 14), some (.retAddr 0), some (.retAddr 6), some (.retAddr 7), some (.ref 18), some (.int (iI (orz t (pw (lk tp a))))), some (.int (iI i)), some (.int (iI (pw (lk tp a))))]) (st' := [.int (iI (pw (lk tp a))), .retAddr 7, .int (iI ((nmR tp 2 (sk tp a + 1)).2.1))]) (g1 := (HW (usc (usc sc 1401 ((nmR tp 2 (sk tp a + 1)).2.2)) 1402 ((nmR tp 2 (sk tp a + 1)).1)) (usc ar 18 (usz f (pw (lk tp a)) ((nmR tp 2 (sk tp a + 1)).2.1))) tx oc rl ou tl, q)) rfl ?_
          refine RQ.kald (z := (pw (lk tp a))) rfl rfl hK7 (by omega) (by decide) ?_
          refine RQ.if2 (a := ((nmR tp 2 (sk tp a + 1)).2.1)) (b := (kc7 (pw (lk tp a)))) rfl rfl rfl rfl (by omega) (by omega) (fun (h6 : (nmR tp 2 (sk tp a + 1)).2.1 ≤ kc7 (pw (lk tp a))) => ?_) (fun (h6 : ¬ (nmR tp 2 (sk tp a + 1)).2.1 ≤ kc7 (pw (lk tp a))) => ?_)
          · skip
            refine RQ.seg 2 (pc' := 16) (L' := [some (.ref 14), some (.retAddr 0), some (.retAddr 6), some (.retAddr 7), some (.ref 18), some (.int (iI (orz t (pw (lk tp a))))), some (.int ((iI i) + (iI 1))), some (.int (iI (pw (lk tp a))))]) (st' := []) (g1 := (HW (usc (usc sc 1401 ((nmR tp 2 (sk tp a + 1)).2.2)) 1402 ((nmR tp 2 (sk tp a + 1)).1)) (usc ar 18 (usz f (pw (lk tp a)) ((nmR tp 2 (sk tp a + 1)).2.1))) tx oc rl ou tl, q)) rfl ?_
            refine RQ.to (L' := [some (.ref 14), some (.retAddr 0), some (.retAddr 6), some (.retAddr 7), some (.ref 18), some (.int (iI (orz t (pw (lk tp a))))), some (.int (iI (i + 1))), some (.int (iI (pw (lk tp a))))]) (st' := []) (by simp only [iI_add, iI_sub, iI_mul, iI_neg]) rfl ?_
            have hor := orz4 (t := t) (i := pw (lk tp a)) (by omega) (by omega) hbt
            have hir := itR_r (tp := tp) (lo := kc6 (pw (lk tp a))) (hi := kc7 (pw (lk tp a))) (a := sk tp a + 1) (by omega)
            rw [its, if_neg (by omega), if_neg hbt] at hk
            rcases Decidable.em ((nmR tp 2 (sk tp a + 1)).1 = -1) with hq | hq
            · rw [itR_g hq (by omega), if_neg (by omega)] at hk
              have hx9 := hnr.2.1
              rw [hq]
              refine x_itw1_l ht hs hl hK0 hK6 hK7 m (i + 1) (orz t (pw (lk tp a))) (nmR tp 2 (sk tp a + 1)).2.2 _ (usz v (pw (lk tp a)) (nmR tp 2 (sk tp a + 1)).2.1) _ (by omega) (by omega) (by omega) (by omega) (by omega) (fun j j0 j1 => ?_) hk
              by_cases ej : j = pw (lk tp a)
              · rw [ej, usz_s, usz_s]
              · rw [usz_n ej, usz_n ej]; exact hf j j0 j1
            · rw [itR_n hq, if_pos hq] at hk
              refine RQ.seg 2 (pc' := 19) (L' := [some (.ref 14), some (.retAddr 0), some (.retAddr 6), some (.retAddr 7), some (.ref 18), some (.int (iI (orz t (pw (lk tp a))))), some (.int (iI (i + 1))), some (.int (iI (pw (lk tp a))))]) (st' := [.retAddr 0, .int (iI (i + 1))]) (g1 := (HW (usc (usc sc 1401 ((nmR tp 2 (sk tp a + 1)).2.2)) 1402 ((nmR tp 2 (sk tp a + 1)).1)) (usc ar 18 (usz f (pw (lk tp a)) ((nmR tp 2 (sk tp a + 1)).2.1))) tx oc rl ou tl, q)) rfl ?_
              refine RQ.kalen rfl hK0 ?_
              refine RQ.if2 (a := (i + 1)) (b := 4) rfl rfl rfl rfl (by omega) (by omega) (fun (h7 : 4 < i + 1) => ?_) (fun (h7 : ¬ 4 < i + 1) => ?_)
              · skip
                refine RQ.ret rfl rfl ?_
                exact hk _ _ _ (by omega) (by omega) rfl (fun z => absurd z (by omega))
              · skip
                refine RQ.seg 1 (pc' := 24) (L' := [some (.ref 14), some (.retAddr 0), some (.retAddr 6), some (.retAddr 7), some (.ref 18), some (.int (iI (orz t (pw (lk tp a))))), some (.int (iI (i + 1))), some (.int (iI (pw (lk tp a))))]) (st' := [.ref 14]) (g1 := (HW (usc (usc sc 1401 ((nmR tp 2 (sk tp a + 1)).2.2)) 1402 ((nmR tp 2 (sk tp a + 1)).1)) (usc ar 18 (usz f (pw (lk tp a)) ((nmR tp 2 (sk tp a + 1)).2.1))) tx oc rl ou tl, q)) rfl ?_
                refine RQ.call rfl rfl (CallR.up (d := 1) (x_fine14f (d := 0) (sc := usc (usc sc 1401 ((nmR tp 2 (sk tp a + 1)).2.2)) 1402 ((nmR tp 2 (sk tp a + 1)).1)) (ar := usc ar 18 (usz f (pw (lk tp a)) ((nmR tp 2 (sk tp a + 1)).2.1))) (by show -1 ≤ (nmR tp 2 (sk tp a + 1)).1 ∧ (nmR tp 2 (sk tp a + 1)).1 ≤ 200; omega) (by show ¬ (nmR tp 2 (sk tp a + 1)).1 = -1; omega)) (by omega)) ?_
                refine RQ.seg 1 (pc' := 135) (L' := [some (.ref 14), some (.retAddr 0), some (.retAddr 6), some (.retAddr 7), some (.ref 18), some (.int (iI (orz t (pw (lk tp a))))), some (.int (iI (i + 1))), some (.int (iI (pw (lk tp a))))]) (st' := []) (g1 := (HW (usc (usc sc 1401 ((nmR tp 2 (sk tp a + 1)).2.2)) 1402 ((nmR tp 2 (sk tp a + 1)).1)) (usc ar 18 (usz f (pw (lk tp a)) ((nmR tp 2 (sk tp a + 1)).2.1))) tx oc rl ou tl, q)) rfl ?_
                refine RQ.ret rfl rfl ?_
                exact hk _ _ _ (by omega) (by omega) rfl (fun z => absurd z (by omega))
          · skip
            refine RQ.seg 5 (pc' := 126) (L' := [some (.ref 14), some (.retAddr 0), some (.retAddr 6), some (.retAddr 7), some (.ref 18), some (.int (iI (orz t (pw (lk tp a))))), some (.int (iI i)), some (.int (iI (pw (lk tp a))))]) (st' := [.int ((iI ((nmR tp 2 (sk tp a + 1)).2.2)) - (iI 1)), .ref 14]) (g1 := (HW (usc (usc sc 1401 ((nmR tp 2 (sk tp a + 1)).2.2)) 1402 ((nmR tp 2 (sk tp a + 1)).1)) (usc ar 18 (usz f (pw (lk tp a)) ((nmR tp 2 (sk tp a + 1)).2.1))) tx oc rl ou tl, q)) rfl ?_
            refine RQ.to (L' := [some (.ref 14), some (.retAddr 0), some (.retAddr 6), some (.retAddr 7), some (.ref 18), some (.int (iI (orz t (pw (lk tp a))))), some (.int (iI i)), some (.int (iI (pw (lk tp a))))]) (st' := [.int (iI ((nmR tp 2 (sk tp a + 1)).2.2 - 1)), .ref 14]) rfl (by simp only [iI_add, iI_sub, iI_mul, iI_neg]) ?_
            refine RQ.call rfl rfl (CallR.up (d := 1) (x_refuse14 (d := 0) (sc := usc (usc sc 1401 ((nmR tp 2 (sk tp a + 1)).2.2)) 1402 ((nmR tp 2 (sk tp a + 1)).1)) (ar := usc ar 18 (usz f (pw (lk tp a)) ((nmR tp 2 (sk tp a + 1)).2.1))) (p := (nmR tp 2 (sk tp a + 1)).2.2 - 1) (by show -1 ≤ (nmR tp 2 (sk tp a + 1)).1 ∧ (nmR tp 2 (sk tp a + 1)).1 ≤ 200; omega)) (by omega)) ?_
            refine RQ.hp (g1 := (HW (usc (usc sc 1401 ((nmR tp 2 (sk tp a + 1)).2.2)) 1402 (if (nmR tp 2 (sk tp a + 1)).1 = -1 then (nmR tp 2 (sk tp a + 1)).2.2 - 1 else (nmR tp 2 (sk tp a + 1)).1)) (usc ar 18 (usz f (pw (lk tp a)) ((nmR tp 2 (sk tp a + 1)).2.1))) tx oc rl ou tl, q)) (HW_e (by rw [usc_uu _ 1402 _ _]; try rfl) rfl) ?_
            refine RQ.seg 2 (pc' := 16) (L' := [some (.ref 14), some (.retAddr 0), some (.retAddr 6), some (.retAddr 7), some (.ref 18), some (.int (iI (orz t (pw (lk tp a))))), some (.int ((iI i) + (iI 1))), some (.int (iI (pw (lk tp a))))]) (st' := []) (g1 := (HW (usc (usc sc 1401 ((nmR tp 2 (sk tp a + 1)).2.2)) 1402 (if (nmR tp 2 (sk tp a + 1)).1 = -1 then (nmR tp 2 (sk tp a + 1)).2.2 - 1 else (nmR tp 2 (sk tp a + 1)).1)) (usc ar 18 (usz f (pw (lk tp a)) ((nmR tp 2 (sk tp a + 1)).2.1))) tx oc rl ou tl, q)) rfl ?_
            refine RQ.to (L' := [some (.ref 14), some (.retAddr 0), some (.retAddr 6), some (.retAddr 7), some (.ref 18), some (.int (iI (orz t (pw (lk tp a))))), some (.int (iI (i + 1))), some (.int (iI (pw (lk tp a))))]) (st' := []) (by simp only [iI_add, iI_sub, iI_mul, iI_neg]) rfl ?_
            have hor := orz4 (t := t) (i := pw (lk tp a)) (by omega) (by omega) hbt
            have hir := itR_r (tp := tp) (lo := kc6 (pw (lk tp a))) (hi := kc7 (pw (lk tp a))) (a := sk tp a + 1) (by omega)
            rw [its, if_neg (by omega), if_neg hbt] at hk
            have hwv : (itR tp (kc6 (pw (lk tp a))) (kc7 (pw (lk tp a))) (sk tp a + 1)).1 = if (nmR tp 2 (sk tp a + 1)).1 = -1 then (nmR tp 2 (sk tp a + 1)).2.2 - 1 else (nmR tp 2 (sk tp a + 1)).1 := by rcases Decidable.em ((nmR tp 2 (sk tp a + 1)).1 = -1) with hq | hq; (rw [itR_o hq (by omega), if_pos hq]); (rw [itR_n hq, if_neg hq])
            have hnf : ¬ (itR tp (kc6 (pw (lk tp a))) (kc7 (pw (lk tp a))) (sk tp a + 1)).1 = -1 := by rcases Decidable.em ((nmR tp 2 (sk tp a + 1)).1 = -1) with hq | hq; (intro z9; have := hir.2.2.2 z9; rw [itR_o hq (by omega)] at this; dsimp only at this; omega); (rw [itR_n hq]; exact hq)
            rw [if_pos hnf] at hk
            rw [hwv] at hk hnf hir
            generalize (if (nmR tp 2 (sk tp a + 1)).1 = -1 then (nmR tp 2 (sk tp a + 1)).2.2 - 1 else (nmR tp 2 (sk tp a + 1)).1) = wv at hk hnf hir ⊢
            refine RQ.seg 2 (pc' := 19) (L' := [some (.ref 14), some (.retAddr 0), some (.retAddr 6), some (.retAddr 7), some (.ref 18), some (.int (iI (orz t (pw (lk tp a))))), some (.int (iI (i + 1))), some (.int (iI (pw (lk tp a))))]) (st' := [.retAddr 0, .int (iI (i + 1))]) (g1 := (HW (usc (usc sc 1401 ((nmR tp 2 (sk tp a + 1)).2.2)) 1402 wv) (usc ar 18 (usz f (pw (lk tp a)) ((nmR tp 2 (sk tp a + 1)).2.1))) tx oc rl ou tl, q)) rfl ?_
            refine RQ.kalen rfl hK0 ?_
            refine RQ.if2 (a := (i + 1)) (b := 4) rfl rfl rfl rfl (by omega) (by omega) (fun (h8 : 4 < i + 1) => ?_) (fun (h8 : ¬ 4 < i + 1) => ?_)
            · skip
              refine RQ.ret rfl rfl ?_
              exact hk _ _ _ (by omega) (by omega) rfl (fun z => absurd z (by omega))
            · skip
              refine RQ.seg 1 (pc' := 24) (L' := [some (.ref 14), some (.retAddr 0), some (.retAddr 6), some (.retAddr 7), some (.ref 18), some (.int (iI (orz t (pw (lk tp a))))), some (.int (iI (i + 1))), some (.int (iI (pw (lk tp a))))]) (st' := [.ref 14]) (g1 := (HW (usc (usc sc 1401 ((nmR tp 2 (sk tp a + 1)).2.2)) 1402 wv) (usc ar 18 (usz f (pw (lk tp a)) ((nmR tp 2 (sk tp a + 1)).2.1))) tx oc rl ou tl, q)) rfl ?_
              refine RQ.call rfl rfl (CallR.up (d := 1) (x_fine14f (d := 0) (sc := usc (usc sc 1401 ((nmR tp 2 (sk tp a + 1)).2.2)) 1402 wv) (ar := usc ar 18 (usz f (pw (lk tp a)) ((nmR tp 2 (sk tp a + 1)).2.1))) (by show -1 ≤ wv ∧ wv ≤ 200; omega) (by show ¬ wv = -1; omega)) (by omega)) ?_
              refine RQ.seg 1 (pc' := 135) (L' := [some (.ref 14), some (.retAddr 0), some (.retAddr 6), some (.retAddr 7), some (.ref 18), some (.int (iI (orz t (pw (lk tp a))))), some (.int (iI (i + 1))), some (.int (iI (pw (lk tp a))))]) (st' := []) (g1 := (HW (usc (usc sc 1401 ((nmR tp 2 (sk tp a + 1)).2.2)) 1402 wv) (usc ar 18 (usz f (pw (lk tp a)) ((nmR tp 2 (sk tp a + 1)).2.1))) tx oc rl ou tl, q)) rfl ?_
              refine RQ.ret rfl rfl ?_
              exact hk _ _ _ (by omega) (by omega) rfl (fun z => absurd z (by omega))
    · skip
      refine RQ.ret rfl rfl ?_
      rw [its, if_pos (by omega)] at hk
      exact hk _ _ _ (by omega) (by omega) rfl (fun _ => ⟨rfl, hf⟩)
theorem x_itw2_l {K : PK} {d : Nat} {sc : Nat → Int} {ar : Nat → Int → Int} {tx oc : Nat} {rl : Nat → Option Nat} {ou : Nat → Int64} {tl : List PO} {q : Nat × Nat} {Q : Option Value → PG → Prop} {tp : List Int} (ht : TpOK tp) (hs : sc 101 = (tp.length : Int)) (hl : LAt (fun v => v) (ar 2) tp) (hK0 : K 0 = some (4, zA kc0)) (hK6 : K 6 = some (4, zA kc6)) (hK7 : K 7 = some (4, zA kc7)) : ∀ (m : Nat) (i t a : Int) (f v : Int → Int) (e7 : Option Value) (hm : i + m = 5) (hi : 0 ≤ i) (htr : 0 ≤ t ∧ t < 16) (hpc : pc4 t = i) (ha : 0 ≤ a ∧ a ≤ (tp.length : Int)) (hf : ∀ j, 0 ≤ j → j < 4 → f j = v j) (hk : ∀ a' w' f', (-1 ≤ w' ∧ w' ≤ 160) → (0 ≤ a' ∧ a' ≤ (tp.length : Int)) → w' = (its pw kc6 kc7 tp m t a v).1 → ((its pw kc6 kc7 tp m t a v).1 = -1 → a' = (its pw kc6 kc7 tp m t a v).2.1 ∧ ∀ j, 0 ≤ j → j < 4 → f' j = (its pw kc6 kc7 tp m t a v).2.2 j) → Q none (HW (usc (usc sc 1401 a') 1402 w') (usc ar 19 f') tx oc rl ou tl, q)), RQ K (d + 3) 3 false none cd27 16 [some (.ref 14), some (.retAddr 0), some (.retAddr 6), some (.retAddr 7), some (.ref 19), some (.int (iI t)), some (.int (iI i)), e7] [] (HW (usc (usc sc 1401 a) 1402 (-1)) (usc ar 19 f) tx oc rl ou tl, q) Q
  | 0, i, t, a, f, v, e7, hm, hi, htr, hpc, ha, hf, hk => by
    have ht1 := ht.1
    refine RQ.seg 2 (pc' := 19) (L' := [some (.ref 14), some (.retAddr 0), some (.retAddr 6), some (.retAddr 7), some (.ref 19), some (.int (iI t)), some (.int (iI i)), e7]) (st' := [.retAddr 0, .int (iI i)]) (g1 := (HW (usc (usc sc 1401 a) 1402 (-1)) (usc ar 19 f) tx oc rl ou tl, q)) rfl ?_
    refine RQ.kalen rfl hK0 ?_
    refine RQ.if2 (a := i) (b := 4) rfl rfl rfl rfl (by omega) (by omega) (fun _ => ?_) (fun (q : ¬ 4 < i) => absurd (show 4 < i from by omega) q)
    refine RQ.ret rfl rfl ?_
    exact hk _ _ _ (by omega) (by omega) rfl (fun _ => ⟨rfl, hf⟩)
  | m + 1, i, t, a, f, v, e7, hm, hi, htr, hpc, ha, hf, hk => by
    have ht1 := ht.1
    have hsk := sk_r (tp := tp) ha.2
    have hlr := tch_r ht (sk tp a)
    have hlk : 0 ≤ lk tp a ∧ lk tp a ≤ 255 := hlr
    have hpr := pw_r (lk tp a)
    have hkr : lk tp a ≠ 0 → 0 ≤ sk tp a ∧ sk tp a < (tp.length : Int) := fun z => tch_pos z
    have hkA := kr6 (pw (lk tp a))
    have hkB := kr7 (pw (lk tp a))
    refine RQ.seg 2 (pc' := 19) (L' := [some (.ref 14), some (.retAddr 0), some (.retAddr 6), some (.retAddr 7), some (.ref 19), some (.int (iI t)), some (.int (iI i)), e7]) (st' := [.retAddr 0, .int (iI i)]) (g1 := (HW (usc (usc sc 1401 a) 1402 (-1)) (usc ar 19 f) tx oc rl ou tl, q)) rfl ?_
    refine RQ.kalen rfl hK0 ?_
    refine RQ.if2 (a := i) (b := 4) rfl rfl rfl rfl (by omega) (by omega) (fun (q : 4 < i) => absurd q (show ¬ 4 < i from by omega)) (fun _ => ?_)
    refine RQ.seg 1 (pc' := 24) (L' := [some (.ref 14), some (.retAddr 0), some (.retAddr 6), some (.retAddr 7), some (.ref 19), some (.int (iI t)), some (.int (iI i)), e7]) (st' := [.ref 14]) (g1 := (HW (usc (usc sc 1401 a) 1402 (-1)) (usc ar 19 f) tx oc rl ou tl, q)) rfl ?_
    refine RQ.call rfl rfl (CallR.up (d := 1) (x_fine14t (d := 0) (sc := usc (usc sc 1401 a) 1402 (-1)) (ar := usc ar 19 f) (by show -1 ≤ (-1 : Int) ∧ (-1 : Int) ≤ 200; omega) rfl) (by omega)) ?_
    refine RQ.seg 3 (pc' := 32) (L' := [some (.ref 14), some (.retAddr 0), some (.retAddr 6), some (.retAddr 7), some (.ref 19), some (.int (iI t)), some (.int (iI i)), e7]) (st' := [.ref 14, .retAddr 0]) (g1 := (HW (usc (usc sc 1401 a) 1402 (-1)) (usc ar 19 f) tx oc rl ou tl, q)) rfl ?_
    refine RQ.call rfl rfl (CallR.up (d := 1) (x_look14 (d := 0) (sc := usc (usc sc 1401 a) 1402 (-1)) (ar := usc ar 19 f) (a := a) ht hs hl rfl ha) (by omega)) ?_
    refine RQ.hp (g1 := (HW (usc (usc sc 1401 (sk tp a)) 1402 (-1)) (usc ar 19 f) tx oc rl ou tl, q)) (HW_e (by rw [usc_sw _ 1402 1401 _ _ rfl, usc_uu _ 1401 _ _]; try rfl) rfl) ?_
    refine RQ.call rfl rfl (CallR.up (d := 1) (x_place0 (d := 0) (c := lk tp a) hK0 (by omega)) (by omega)) ?_
    refine RQ.seg 3 (pc' := 43) (L' := [some (.ref 14), some (.retAddr 0), some (.retAddr 6), some (.retAddr 7), some (.ref 19), some (.int (iI t)), some (.int (iI i)), some (.int (iI (pw (lk tp a))))]) (st' := [.int (iI (-1)), .int (iI (pw (lk tp a)))]) (g1 := (HW (usc (usc sc 1401 (sk tp a)) 1402 (-1)) (usc ar 19 f) tx oc rl ou tl, q)) rfl ?_
    refine RQ.if2 (a := (pw (lk tp a))) (b := (-1)) rfl rfl rfl rfl (by omega) (by omega) (fun (h2 : pw (lk tp a) ≠ (-1)) => ?_) (fun (h2 : ¬ pw (lk tp a) ≠ (-1)) => ?_)
    · skip
      refine RQ.seg 3 (pc' := 52) (L' := [some (.ref 14), some (.retAddr 0), some (.retAddr 6), some (.retAddr 7), some (.ref 19), some (.int (iI t)), some (.int (iI i)), some (.int (iI (pw (lk tp a))))]) (st' := [.int (iI (pw (lk tp a))), .int (iI 1), .int (iI t)]) (g1 := (HW (usc (usc sc 1401 (sk tp a)) 1402 (-1)) (usc ar 19 f) tx oc rl ou tl, q)) rfl ?_
      refine RQ.ishl1 (b := (pw (lk tp a))) rfl rfl rfl (by omega) ?_
      have hp2 := p2_r (b := pw (lk tp a)) (by omega)
      refine RQ.iandv (a := t) (b := pw (lk tp a)) rfl rfl rfl (by omega) (fun hbt => ?_) (fun hbt => ?_)
      · skip
        refine RQ.if1 (a := (2 ^ (pw (lk tp a)).toNat)) rfl rfl rfl (by omega) (fun (q : 2 ^ (pw (lk tp a)).toNat = 0) => absurd q (show ¬ 2 ^ (pw (lk tp a)).toNat = 0 from by omega)) (fun _ => ?_)
        refine RQ.seg 3 (pc' := 62) (L' := [some (.ref 14), some (.retAddr 0), some (.retAddr 6), some (.retAddr 7), some (.ref 19), some (.int (iI t)), some (.int (iI i)), some (.int (iI (pw (lk tp a))))]) (st' := [.int (iI (sk tp a)), .ref 14]) (g1 := (HW (usc (usc sc 1401 (sk tp a)) 1402 (-1)) (usc ar 19 f) tx oc rl ou tl, q)) rfl ?_
        refine RQ.call rfl rfl (CallR.up (d := 1) (x_refuse14 (d := 0) (sc := usc (usc sc 1401 (sk tp a)) 1402 (-1)) (ar := usc ar 19 f) (p := sk tp a) (by show -1 ≤ (-1) ∧ (-1) ≤ 200; omega)) (by omega)) ?_
        refine RQ.hp (g1 := (HW (usc (usc sc 1401 (sk tp a)) 1402 (sk tp a)) (usc ar 19 f) tx oc rl ou tl, q)) (HW_e (by rw [usc_uu _ 1402 _ _]; try rfl) rfl) ?_
        refine RQ.ret rfl rfl ?_
        rw [its, if_neg (by omega), if_pos hbt] at hk
        have hkq := hkr (hpr.2.2 (by omega))
        exact hk _ _ _ (by omega) (by omega) rfl (fun z => absurd z (by omega))
      · skip
        refine RQ.seg 4 (pc' := 71) (L' := [some (.ref 14), some (.retAddr 0), some (.retAddr 6), some (.retAddr 7), some (.ref 19), some (.int (iI t)), some (.int (iI i)), some (.int (iI (pw (lk tp a))))]) (st' := [.int (iI (pw (lk tp a))), .int (iI 1), .int (iI t)]) (g1 := (HW (usc (usc sc 1401 (sk tp a)) 1402 (-1)) (usc ar 19 f) tx oc rl ou tl, q)) rfl ?_
        refine RQ.ishl1 (b := (pw (lk tp a))) rfl rfl rfl (by omega) ?_
        refine RQ.ior (a := t) (b := (pw (lk tp a))) rfl rfl rfl (by omega) (by omega) ?_
        refine RQ.seg 6 (pc' := 82) (L' := [some (.ref 14), some (.retAddr 0), some (.retAddr 6), some (.retAddr 7), some (.ref 19), some (.int (iI (orz t (pw (lk tp a))))), some (.int (iI i)), some (.int (iI (pw (lk tp a))))]) (st' := [.int ((iI (sk tp a)) + (iI 1)), .ref 14]) (g1 := (HW (usc (usc sc 1401 (sk tp a)) 1402 (-1)) (usc ar 19 f) tx oc rl ou tl, q)) rfl ?_
        refine RQ.to (L' := [some (.ref 14), some (.retAddr 0), some (.retAddr 6), some (.retAddr 7), some (.ref 19), some (.int (iI (orz t (pw (lk tp a))))), some (.int (iI i)), some (.int (iI (pw (lk tp a))))]) (st' := [.int (iI (sk tp a + 1)), .ref 14]) rfl (by simp only [iI_add, iI_sub, iI_mul, iI_neg]) ?_
        refine RQ.seg 5 (pc' := 91) (L' := [some (.ref 14), some (.retAddr 0), some (.retAddr 6), some (.retAddr 7), some (.ref 19), some (.int (iI (orz t (pw (lk tp a))))), some (.int (iI i)), some (.int (iI (pw (lk tp a))))]) (st' := [.int (iI 2), .ref 14, .int (iI (pw (lk tp a))), .ref 19]) (g1 := (HW (usc (usc sc 1401 (sk tp a + 1)) 1402 (-1)) (usc ar 19 f) tx oc rl ou tl, q)) rfl ?_
        have hne : lk tp a ≠ 0 := hpr.2.2 (by omega)
        have hkq := hkr hne
        have hnr := nmR_r (tp := tp) (k := 2) (a := sk tp a + 1) (by omega) (by omega)
        have hcall := x_number14 (K := K) (d := d + 1) (tx := tx) (oc := oc) (rl := rl) (ou := ou) (tl := tl) (q := q) (sc := usc (usc sc 1401 (sk tp a + 1)) 1402 (-1)) (ar := usc ar 19 f) (k := 2) (a := sk tp a + 1) (w0 := -1) (by omega) ht hs hl rfl (by omega) rfl (by omega)
        rw [if_pos rfl] at hcall
        refine RQ.call rfl rfl hcall ?_
        refine RQ.hp (g1 := (HW (usc (usc sc 1401 ((nmR tp 2 (sk tp a + 1)).2.2)) 1402 ((nmR tp 2 (sk tp a + 1)).1)) (usc ar 19 f) tx oc rl ou tl, q)) (HW_e (by rw [usc_sw _ 1402 1401 _ _ rfl, usc_uu _ 1401 _ _, usc_uu _ 1402 _ _]; try rfl) rfl) ?_
        refine RQ.iast (z := (pw (lk tp a))) (v := ((nmR tp 2 (sk tp a + 1)).2.1)) (g1 := (HW (usc (usc sc 1401 ((nmR tp 2 (sk tp a + 1)).2.2)) 1402 ((nmR tp 2 (sk tp a + 1)).1)) (usc ar 19 (usz f (pw (lk tp a)) ((nmR tp 2 (sk tp a + 1)).2.1))) tx oc rl ou tl, q)) rfl rfl rfl rfl (by omega) (by decide) (HWa_19 (by funext j; unfold usc; cases hb : Nat.beq j 19 <;> first | rfl | (rw [Nat.eq_of_beq_eq_true hb]; rfl))) ?_
        refine RQ.seg 2 (pc' := 99) (L' := [some (.ref 14), some (.retAddr 0), some (.retAddr 6), some (.retAddr 7), some (.ref 19), some (.int (iI (orz t (pw (lk tp a))))), some (.int (iI i)), some (.int (iI (pw (lk tp a))))]) (st' := [.int (iI (pw (lk tp a))), .ref 19]) (g1 := (HW (usc (usc sc 1401 ((nmR tp 2 (sk tp a + 1)).2.2)) 1402 ((nmR tp 2 (sk tp a + 1)).1)) (usc ar 19 (usz f (pw (lk tp a)) ((nmR tp 2 (sk tp a + 1)).2.1))) tx oc rl ou tl, q)) rfl ?_
        refine RQ.ialdv (z := (pw (lk tp a))) (v := ((nmR tp 2 (sk tp a + 1)).2.1)) rfl rfl rfl (by omega) (by decide) (show (usz f (pw (lk tp a)) ((nmR tp 2 (sk tp a + 1)).2.1)) (pw (lk tp a)) = (nmR tp 2 (sk tp a + 1)).2.1 by rw [usz_s]) ?_
        refine RQ.seg 2 (pc' := 103) (L' := [some (.ref 14), some (.retAddr 0), some (.retAddr 6), some (.retAddr 7), some (.ref 19), some (.int (iI (orz t (pw (lk tp a))))), some (.int (iI i)), some (.int (iI (pw (lk tp a))))]) (st' := [.int (iI (pw (lk tp a))), .retAddr 6, .int (iI ((nmR tp 2 (sk tp a + 1)).2.1))]) (g1 := (HW (usc (usc sc 1401 ((nmR tp 2 (sk tp a + 1)).2.2)) 1402 ((nmR tp 2 (sk tp a + 1)).1)) (usc ar 19 (usz f (pw (lk tp a)) ((nmR tp 2 (sk tp a + 1)).2.1))) tx oc rl ou tl, q)) rfl ?_
        refine RQ.kald (z := (pw (lk tp a))) rfl rfl hK6 (by omega) (by decide) ?_
        refine RQ.if2 (a := ((nmR tp 2 (sk tp a + 1)).2.1)) (b := (kc6 (pw (lk tp a)))) rfl rfl rfl rfl (by omega) (by omega) (fun (h4 : (nmR tp 2 (sk tp a + 1)).2.1 < kc6 (pw (lk tp a))) => ?_) (fun (h4 : ¬ (nmR tp 2 (sk tp a + 1)).2.1 < kc6 (pw (lk tp a))) => ?_)
        · skip
          refine RQ.seg 5 (pc' := 126) (L' := [some (.ref 14), some (.retAddr 0), some (.retAddr 6), some (.retAddr 7), some (.ref 19), some (.int (iI (orz t (pw (lk tp a))))), some (.int (iI i)), some (.int (iI (pw (lk tp a))))]) (st' := [.int ((iI ((nmR tp 2 (sk tp a + 1)).2.2)) - (iI 1)), .ref 14]) (g1 := (HW (usc (usc sc 1401 ((nmR tp 2 (sk tp a + 1)).2.2)) 1402 ((nmR tp 2 (sk tp a + 1)).1)) (usc ar 19 (usz f (pw (lk tp a)) ((nmR tp 2 (sk tp a + 1)).2.1))) tx oc rl ou tl, q)) rfl ?_
          refine RQ.to (L' := [some (.ref 14), some (.retAddr 0), some (.retAddr 6), some (.retAddr 7), some (.ref 19), some (.int (iI (orz t (pw (lk tp a))))), some (.int (iI i)), some (.int (iI (pw (lk tp a))))]) (st' := [.int (iI ((nmR tp 2 (sk tp a + 1)).2.2 - 1)), .ref 14]) rfl (by simp only [iI_add, iI_sub, iI_mul, iI_neg]) ?_
          refine RQ.call rfl rfl (CallR.up (d := 1) (x_refuse14 (d := 0) (sc := usc (usc sc 1401 ((nmR tp 2 (sk tp a + 1)).2.2)) 1402 ((nmR tp 2 (sk tp a + 1)).1)) (ar := usc ar 19 (usz f (pw (lk tp a)) ((nmR tp 2 (sk tp a + 1)).2.1))) (p := (nmR tp 2 (sk tp a + 1)).2.2 - 1) (by show -1 ≤ (nmR tp 2 (sk tp a + 1)).1 ∧ (nmR tp 2 (sk tp a + 1)).1 ≤ 200; omega)) (by omega)) ?_
          refine RQ.hp (g1 := (HW (usc (usc sc 1401 ((nmR tp 2 (sk tp a + 1)).2.2)) 1402 (if (nmR tp 2 (sk tp a + 1)).1 = -1 then (nmR tp 2 (sk tp a + 1)).2.2 - 1 else (nmR tp 2 (sk tp a + 1)).1)) (usc ar 19 (usz f (pw (lk tp a)) ((nmR tp 2 (sk tp a + 1)).2.1))) tx oc rl ou tl, q)) (HW_e (by rw [usc_uu _ 1402 _ _]; try rfl) rfl) ?_
          refine RQ.seg 2 (pc' := 16) (L' := [some (.ref 14), some (.retAddr 0), some (.retAddr 6), some (.retAddr 7), some (.ref 19), some (.int (iI (orz t (pw (lk tp a))))), some (.int ((iI i) + (iI 1))), some (.int (iI (pw (lk tp a))))]) (st' := []) (g1 := (HW (usc (usc sc 1401 ((nmR tp 2 (sk tp a + 1)).2.2)) 1402 (if (nmR tp 2 (sk tp a + 1)).1 = -1 then (nmR tp 2 (sk tp a + 1)).2.2 - 1 else (nmR tp 2 (sk tp a + 1)).1)) (usc ar 19 (usz f (pw (lk tp a)) ((nmR tp 2 (sk tp a + 1)).2.1))) tx oc rl ou tl, q)) rfl ?_
          refine RQ.to (L' := [some (.ref 14), some (.retAddr 0), some (.retAddr 6), some (.retAddr 7), some (.ref 19), some (.int (iI (orz t (pw (lk tp a))))), some (.int (iI (i + 1))), some (.int (iI (pw (lk tp a))))]) (st' := []) (by simp only [iI_add, iI_sub, iI_mul, iI_neg]) rfl ?_
          have hor := orz4 (t := t) (i := pw (lk tp a)) (by omega) (by omega) hbt
          have hir := itR_r (tp := tp) (lo := kc6 (pw (lk tp a))) (hi := kc7 (pw (lk tp a))) (a := sk tp a + 1) (by omega)
          rw [its, if_neg (by omega), if_neg hbt] at hk
          have hwv : (itR tp (kc6 (pw (lk tp a))) (kc7 (pw (lk tp a))) (sk tp a + 1)).1 = if (nmR tp 2 (sk tp a + 1)).1 = -1 then (nmR tp 2 (sk tp a + 1)).2.2 - 1 else (nmR tp 2 (sk tp a + 1)).1 := by rcases Decidable.em ((nmR tp 2 (sk tp a + 1)).1 = -1) with hq | hq; (rw [itR_o hq (by omega), if_pos hq]); (rw [itR_n hq, if_neg hq])
          have hnf : ¬ (itR tp (kc6 (pw (lk tp a))) (kc7 (pw (lk tp a))) (sk tp a + 1)).1 = -1 := by rcases Decidable.em ((nmR tp 2 (sk tp a + 1)).1 = -1) with hq | hq; (intro z9; have := hir.2.2.2 z9; rw [itR_o hq (by omega)] at this; dsimp only at this; omega); (rw [itR_n hq]; exact hq)
          rw [if_pos hnf] at hk
          rw [hwv] at hk hnf hir
          generalize (if (nmR tp 2 (sk tp a + 1)).1 = -1 then (nmR tp 2 (sk tp a + 1)).2.2 - 1 else (nmR tp 2 (sk tp a + 1)).1) = wv at hk hnf hir ⊢
          refine RQ.seg 2 (pc' := 19) (L' := [some (.ref 14), some (.retAddr 0), some (.retAddr 6), some (.retAddr 7), some (.ref 19), some (.int (iI (orz t (pw (lk tp a))))), some (.int (iI (i + 1))), some (.int (iI (pw (lk tp a))))]) (st' := [.retAddr 0, .int (iI (i + 1))]) (g1 := (HW (usc (usc sc 1401 ((nmR tp 2 (sk tp a + 1)).2.2)) 1402 wv) (usc ar 19 (usz f (pw (lk tp a)) ((nmR tp 2 (sk tp a + 1)).2.1))) tx oc rl ou tl, q)) rfl ?_
          refine RQ.kalen rfl hK0 ?_
          refine RQ.if2 (a := (i + 1)) (b := 4) rfl rfl rfl rfl (by omega) (by omega) (fun (h5 : 4 < i + 1) => ?_) (fun (h5 : ¬ 4 < i + 1) => ?_)
          · skip
            refine RQ.ret rfl rfl ?_
            exact hk _ _ _ (by omega) (by omega) rfl (fun z => absurd z (by omega))
          · skip
            refine RQ.seg 1 (pc' := 24) (L' := [some (.ref 14), some (.retAddr 0), some (.retAddr 6), some (.retAddr 7), some (.ref 19), some (.int (iI (orz t (pw (lk tp a))))), some (.int (iI (i + 1))), some (.int (iI (pw (lk tp a))))]) (st' := [.ref 14]) (g1 := (HW (usc (usc sc 1401 ((nmR tp 2 (sk tp a + 1)).2.2)) 1402 wv) (usc ar 19 (usz f (pw (lk tp a)) ((nmR tp 2 (sk tp a + 1)).2.1))) tx oc rl ou tl, q)) rfl ?_
            refine RQ.call rfl rfl (CallR.up (d := 1) (x_fine14f (d := 0) (sc := usc (usc sc 1401 ((nmR tp 2 (sk tp a + 1)).2.2)) 1402 wv) (ar := usc ar 19 (usz f (pw (lk tp a)) ((nmR tp 2 (sk tp a + 1)).2.1))) (by show -1 ≤ wv ∧ wv ≤ 200; omega) (by show ¬ wv = -1; omega)) (by omega)) ?_
            refine RQ.seg 1 (pc' := 135) (L' := [some (.ref 14), some (.retAddr 0), some (.retAddr 6), some (.retAddr 7), some (.ref 19), some (.int (iI (orz t (pw (lk tp a))))), some (.int (iI (i + 1))), some (.int (iI (pw (lk tp a))))]) (st' := []) (g1 := (HW (usc (usc sc 1401 ((nmR tp 2 (sk tp a + 1)).2.2)) 1402 wv) (usc ar 19 (usz f (pw (lk tp a)) ((nmR tp 2 (sk tp a + 1)).2.1))) tx oc rl ou tl, q)) rfl ?_
            refine RQ.ret rfl rfl ?_
            exact hk _ _ _ (by omega) (by omega) rfl (fun z => absurd z (by omega))
        · skip
          refine RQ.seg 2 (pc' := 111) (L' := [some (.ref 14), some (.retAddr 0), some (.retAddr 6), some (.retAddr 7), some (.ref 19), some (.int (iI (orz t (pw (lk tp a))))), some (.int (iI i)), some (.int (iI (pw (lk tp a))))]) (st' := [.int (iI (pw (lk tp a))), .ref 19]) (g1 := (HW (usc (usc sc 1401 ((nmR tp 2 (sk tp a + 1)).2.2)) 1402 ((nmR tp 2 (sk tp a + 1)).1)) (usc ar 19 (usz f (pw (lk tp a)) ((nmR tp 2 (sk tp a + 1)).2.1))) tx oc rl ou tl, q)) rfl ?_
          refine RQ.ialdv (z := (pw (lk tp a))) (v := ((nmR tp 2 (sk tp a + 1)).2.1)) rfl rfl rfl (by omega) (by decide) (show (usz f (pw (lk tp a)) ((nmR tp 2 (sk tp a + 1)).2.1)) (pw (lk tp a)) = (nmR tp 2 (sk tp a + 1)).2.1 by rw [usz_s]) ?_
          refine RQ.seg 2 (pc' := 115) (L' := [some (.ref 14), some (.retAddr 0), some (.retAddr 6), some (.retAddr 7), some (.ref 19), some (.int (iI (orz t (pw (lk tp a))))), some (.int (iI i)), some (.int (iI (pw (lk tp a))))]) (st' := [.int (iI (pw (lk tp a))), .retAddr 7, .int (iI ((nmR tp 2 (sk tp a + 1)).2.1))]) (g1 := (HW (usc (usc sc 1401 ((nmR tp 2 (sk tp a + 1)).2.2)) 1402 ((nmR tp 2 (sk tp a + 1)).1)) (usc ar 19 (usz f (pw (lk tp a)) ((nmR tp 2 (sk tp a + 1)).2.1))) tx oc rl ou tl, q)) rfl ?_
          refine RQ.kald (z := (pw (lk tp a))) rfl rfl hK7 (by omega) (by decide) ?_
          refine RQ.if2 (a := ((nmR tp 2 (sk tp a + 1)).2.1)) (b := (kc7 (pw (lk tp a)))) rfl rfl rfl rfl (by omega) (by omega) (fun (h6 : (nmR tp 2 (sk tp a + 1)).2.1 ≤ kc7 (pw (lk tp a))) => ?_) (fun (h6 : ¬ (nmR tp 2 (sk tp a + 1)).2.1 ≤ kc7 (pw (lk tp a))) => ?_)
          · skip
            refine RQ.seg 2 (pc' := 16) (L' := [some (.ref 14), some (.retAddr 0), some (.retAddr 6), some (.retAddr 7), some (.ref 19), some (.int (iI (orz t (pw (lk tp a))))), some (.int ((iI i) + (iI 1))), some (.int (iI (pw (lk tp a))))]) (st' := []) (g1 := (HW (usc (usc sc 1401 ((nmR tp 2 (sk tp a + 1)).2.2)) 1402 ((nmR tp 2 (sk tp a + 1)).1)) (usc ar 19 (usz f (pw (lk tp a)) ((nmR tp 2 (sk tp a + 1)).2.1))) tx oc rl ou tl, q)) rfl ?_
            refine RQ.to (L' := [some (.ref 14), some (.retAddr 0), some (.retAddr 6), some (.retAddr 7), some (.ref 19), some (.int (iI (orz t (pw (lk tp a))))), some (.int (iI (i + 1))), some (.int (iI (pw (lk tp a))))]) (st' := []) (by simp only [iI_add, iI_sub, iI_mul, iI_neg]) rfl ?_
            have hor := orz4 (t := t) (i := pw (lk tp a)) (by omega) (by omega) hbt
            have hir := itR_r (tp := tp) (lo := kc6 (pw (lk tp a))) (hi := kc7 (pw (lk tp a))) (a := sk tp a + 1) (by omega)
            rw [its, if_neg (by omega), if_neg hbt] at hk
            rcases Decidable.em ((nmR tp 2 (sk tp a + 1)).1 = -1) with hq | hq
            · rw [itR_g hq (by omega), if_neg (by omega)] at hk
              have hx9 := hnr.2.1
              rw [hq]
              refine x_itw2_l ht hs hl hK0 hK6 hK7 m (i + 1) (orz t (pw (lk tp a))) (nmR tp 2 (sk tp a + 1)).2.2 _ (usz v (pw (lk tp a)) (nmR tp 2 (sk tp a + 1)).2.1) _ (by omega) (by omega) (by omega) (by omega) (by omega) (fun j j0 j1 => ?_) hk
              by_cases ej : j = pw (lk tp a)
              · rw [ej, usz_s, usz_s]
              · rw [usz_n ej, usz_n ej]; exact hf j j0 j1
            · rw [itR_n hq, if_pos hq] at hk
              refine RQ.seg 2 (pc' := 19) (L' := [some (.ref 14), some (.retAddr 0), some (.retAddr 6), some (.retAddr 7), some (.ref 19), some (.int (iI (orz t (pw (lk tp a))))), some (.int (iI (i + 1))), some (.int (iI (pw (lk tp a))))]) (st' := [.retAddr 0, .int (iI (i + 1))]) (g1 := (HW (usc (usc sc 1401 ((nmR tp 2 (sk tp a + 1)).2.2)) 1402 ((nmR tp 2 (sk tp a + 1)).1)) (usc ar 19 (usz f (pw (lk tp a)) ((nmR tp 2 (sk tp a + 1)).2.1))) tx oc rl ou tl, q)) rfl ?_
              refine RQ.kalen rfl hK0 ?_
              refine RQ.if2 (a := (i + 1)) (b := 4) rfl rfl rfl rfl (by omega) (by omega) (fun (h7 : 4 < i + 1) => ?_) (fun (h7 : ¬ 4 < i + 1) => ?_)
              · skip
                refine RQ.ret rfl rfl ?_
                exact hk _ _ _ (by omega) (by omega) rfl (fun z => absurd z (by omega))
              · skip
                refine RQ.seg 1 (pc' := 24) (L' := [some (.ref 14), some (.retAddr 0), some (.retAddr 6), some (.retAddr 7), some (.ref 19), some (.int (iI (orz t (pw (lk tp a))))), some (.int (iI (i + 1))), some (.int (iI (pw (lk tp a))))]) (st' := [.ref 14]) (g1 := (HW (usc (usc sc 1401 ((nmR tp 2 (sk tp a + 1)).2.2)) 1402 ((nmR tp 2 (sk tp a + 1)).1)) (usc ar 19 (usz f (pw (lk tp a)) ((nmR tp 2 (sk tp a + 1)).2.1))) tx oc rl ou tl, q)) rfl ?_
                refine RQ.call rfl rfl (CallR.up (d := 1) (x_fine14f (d := 0) (sc := usc (usc sc 1401 ((nmR tp 2 (sk tp a + 1)).2.2)) 1402 ((nmR tp 2 (sk tp a + 1)).1)) (ar := usc ar 19 (usz f (pw (lk tp a)) ((nmR tp 2 (sk tp a + 1)).2.1))) (by show -1 ≤ (nmR tp 2 (sk tp a + 1)).1 ∧ (nmR tp 2 (sk tp a + 1)).1 ≤ 200; omega) (by show ¬ (nmR tp 2 (sk tp a + 1)).1 = -1; omega)) (by omega)) ?_
                refine RQ.seg 1 (pc' := 135) (L' := [some (.ref 14), some (.retAddr 0), some (.retAddr 6), some (.retAddr 7), some (.ref 19), some (.int (iI (orz t (pw (lk tp a))))), some (.int (iI (i + 1))), some (.int (iI (pw (lk tp a))))]) (st' := []) (g1 := (HW (usc (usc sc 1401 ((nmR tp 2 (sk tp a + 1)).2.2)) 1402 ((nmR tp 2 (sk tp a + 1)).1)) (usc ar 19 (usz f (pw (lk tp a)) ((nmR tp 2 (sk tp a + 1)).2.1))) tx oc rl ou tl, q)) rfl ?_
                refine RQ.ret rfl rfl ?_
                exact hk _ _ _ (by omega) (by omega) rfl (fun z => absurd z (by omega))
          · skip
            refine RQ.seg 5 (pc' := 126) (L' := [some (.ref 14), some (.retAddr 0), some (.retAddr 6), some (.retAddr 7), some (.ref 19), some (.int (iI (orz t (pw (lk tp a))))), some (.int (iI i)), some (.int (iI (pw (lk tp a))))]) (st' := [.int ((iI ((nmR tp 2 (sk tp a + 1)).2.2)) - (iI 1)), .ref 14]) (g1 := (HW (usc (usc sc 1401 ((nmR tp 2 (sk tp a + 1)).2.2)) 1402 ((nmR tp 2 (sk tp a + 1)).1)) (usc ar 19 (usz f (pw (lk tp a)) ((nmR tp 2 (sk tp a + 1)).2.1))) tx oc rl ou tl, q)) rfl ?_
            refine RQ.to (L' := [some (.ref 14), some (.retAddr 0), some (.retAddr 6), some (.retAddr 7), some (.ref 19), some (.int (iI (orz t (pw (lk tp a))))), some (.int (iI i)), some (.int (iI (pw (lk tp a))))]) (st' := [.int (iI ((nmR tp 2 (sk tp a + 1)).2.2 - 1)), .ref 14]) rfl (by simp only [iI_add, iI_sub, iI_mul, iI_neg]) ?_
            refine RQ.call rfl rfl (CallR.up (d := 1) (x_refuse14 (d := 0) (sc := usc (usc sc 1401 ((nmR tp 2 (sk tp a + 1)).2.2)) 1402 ((nmR tp 2 (sk tp a + 1)).1)) (ar := usc ar 19 (usz f (pw (lk tp a)) ((nmR tp 2 (sk tp a + 1)).2.1))) (p := (nmR tp 2 (sk tp a + 1)).2.2 - 1) (by show -1 ≤ (nmR tp 2 (sk tp a + 1)).1 ∧ (nmR tp 2 (sk tp a + 1)).1 ≤ 200; omega)) (by omega)) ?_
            refine RQ.hp (g1 := (HW (usc (usc sc 1401 ((nmR tp 2 (sk tp a + 1)).2.2)) 1402 (if (nmR tp 2 (sk tp a + 1)).1 = -1 then (nmR tp 2 (sk tp a + 1)).2.2 - 1 else (nmR tp 2 (sk tp a + 1)).1)) (usc ar 19 (usz f (pw (lk tp a)) ((nmR tp 2 (sk tp a + 1)).2.1))) tx oc rl ou tl, q)) (HW_e (by rw [usc_uu _ 1402 _ _]; try rfl) rfl) ?_
            refine RQ.seg 2 (pc' := 16) (L' := [some (.ref 14), some (.retAddr 0), some (.retAddr 6), some (.retAddr 7), some (.ref 19), some (.int (iI (orz t (pw (lk tp a))))), some (.int ((iI i) + (iI 1))), some (.int (iI (pw (lk tp a))))]) (st' := []) (g1 := (HW (usc (usc sc 1401 ((nmR tp 2 (sk tp a + 1)).2.2)) 1402 (if (nmR tp 2 (sk tp a + 1)).1 = -1 then (nmR tp 2 (sk tp a + 1)).2.2 - 1 else (nmR tp 2 (sk tp a + 1)).1)) (usc ar 19 (usz f (pw (lk tp a)) ((nmR tp 2 (sk tp a + 1)).2.1))) tx oc rl ou tl, q)) rfl ?_
            refine RQ.to (L' := [some (.ref 14), some (.retAddr 0), some (.retAddr 6), some (.retAddr 7), some (.ref 19), some (.int (iI (orz t (pw (lk tp a))))), some (.int (iI (i + 1))), some (.int (iI (pw (lk tp a))))]) (st' := []) (by simp only [iI_add, iI_sub, iI_mul, iI_neg]) rfl ?_
            have hor := orz4 (t := t) (i := pw (lk tp a)) (by omega) (by omega) hbt
            have hir := itR_r (tp := tp) (lo := kc6 (pw (lk tp a))) (hi := kc7 (pw (lk tp a))) (a := sk tp a + 1) (by omega)
            rw [its, if_neg (by omega), if_neg hbt] at hk
            have hwv : (itR tp (kc6 (pw (lk tp a))) (kc7 (pw (lk tp a))) (sk tp a + 1)).1 = if (nmR tp 2 (sk tp a + 1)).1 = -1 then (nmR tp 2 (sk tp a + 1)).2.2 - 1 else (nmR tp 2 (sk tp a + 1)).1 := by rcases Decidable.em ((nmR tp 2 (sk tp a + 1)).1 = -1) with hq | hq; (rw [itR_o hq (by omega), if_pos hq]); (rw [itR_n hq, if_neg hq])
            have hnf : ¬ (itR tp (kc6 (pw (lk tp a))) (kc7 (pw (lk tp a))) (sk tp a + 1)).1 = -1 := by rcases Decidable.em ((nmR tp 2 (sk tp a + 1)).1 = -1) with hq | hq; (intro z9; have := hir.2.2.2 z9; rw [itR_o hq (by omega)] at this; dsimp only at this; omega); (rw [itR_n hq]; exact hq)
            rw [if_pos hnf] at hk
            rw [hwv] at hk hnf hir
            generalize (if (nmR tp 2 (sk tp a + 1)).1 = -1 then (nmR tp 2 (sk tp a + 1)).2.2 - 1 else (nmR tp 2 (sk tp a + 1)).1) = wv at hk hnf hir ⊢
            refine RQ.seg 2 (pc' := 19) (L' := [some (.ref 14), some (.retAddr 0), some (.retAddr 6), some (.retAddr 7), some (.ref 19), some (.int (iI (orz t (pw (lk tp a))))), some (.int (iI (i + 1))), some (.int (iI (pw (lk tp a))))]) (st' := [.retAddr 0, .int (iI (i + 1))]) (g1 := (HW (usc (usc sc 1401 ((nmR tp 2 (sk tp a + 1)).2.2)) 1402 wv) (usc ar 19 (usz f (pw (lk tp a)) ((nmR tp 2 (sk tp a + 1)).2.1))) tx oc rl ou tl, q)) rfl ?_
            refine RQ.kalen rfl hK0 ?_
            refine RQ.if2 (a := (i + 1)) (b := 4) rfl rfl rfl rfl (by omega) (by omega) (fun (h8 : 4 < i + 1) => ?_) (fun (h8 : ¬ 4 < i + 1) => ?_)
            · skip
              refine RQ.ret rfl rfl ?_
              exact hk _ _ _ (by omega) (by omega) rfl (fun z => absurd z (by omega))
            · skip
              refine RQ.seg 1 (pc' := 24) (L' := [some (.ref 14), some (.retAddr 0), some (.retAddr 6), some (.retAddr 7), some (.ref 19), some (.int (iI (orz t (pw (lk tp a))))), some (.int (iI (i + 1))), some (.int (iI (pw (lk tp a))))]) (st' := [.ref 14]) (g1 := (HW (usc (usc sc 1401 ((nmR tp 2 (sk tp a + 1)).2.2)) 1402 wv) (usc ar 19 (usz f (pw (lk tp a)) ((nmR tp 2 (sk tp a + 1)).2.1))) tx oc rl ou tl, q)) rfl ?_
              refine RQ.call rfl rfl (CallR.up (d := 1) (x_fine14f (d := 0) (sc := usc (usc sc 1401 ((nmR tp 2 (sk tp a + 1)).2.2)) 1402 wv) (ar := usc ar 19 (usz f (pw (lk tp a)) ((nmR tp 2 (sk tp a + 1)).2.1))) (by show -1 ≤ wv ∧ wv ≤ 200; omega) (by show ¬ wv = -1; omega)) (by omega)) ?_
              refine RQ.seg 1 (pc' := 135) (L' := [some (.ref 14), some (.retAddr 0), some (.retAddr 6), some (.retAddr 7), some (.ref 19), some (.int (iI (orz t (pw (lk tp a))))), some (.int (iI (i + 1))), some (.int (iI (pw (lk tp a))))]) (st' := []) (g1 := (HW (usc (usc sc 1401 ((nmR tp 2 (sk tp a + 1)).2.2)) 1402 wv) (usc ar 19 (usz f (pw (lk tp a)) ((nmR tp 2 (sk tp a + 1)).2.1))) tx oc rl ou tl, q)) rfl ?_
              refine RQ.ret rfl rfl ?_
              exact hk _ _ _ (by omega) (by omega) rfl (fun z => absurd z (by omega))
    · skip
      refine RQ.ret rfl rfl ?_
      rw [its, if_pos (by omega)] at hk
      exact hk _ _ _ (by omega) (by omega) rfl (fun _ => ⟨rfl, hf⟩)
theorem x_itw3_l {K : PK} {d : Nat} {sc : Nat → Int} {ar : Nat → Int → Int} {tx oc : Nat} {rl : Nat → Option Nat} {ou : Nat → Int64} {tl : List PO} {q : Nat × Nat} {Q : Option Value → PG → Prop} {tp : List Int} (ht : TpOK tp) (hs : sc 101 = (tp.length : Int)) (hl : LAt (fun v => v) (ar 2) tp) (hK0 : K 0 = some (4, zA kc0)) (hK6 : K 6 = some (4, zA kc6)) (hK7 : K 7 = some (4, zA kc7)) : ∀ (m : Nat) (i t a : Int) (f v : Int → Int) (e7 : Option Value) (hm : i + m = 5) (hi : 0 ≤ i) (htr : 0 ≤ t ∧ t < 16) (hpc : pc4 t = i) (ha : 0 ≤ a ∧ a ≤ (tp.length : Int)) (hf : ∀ j, 0 ≤ j → j < 4 → f j = v j) (hk : ∀ a' w' f', (-1 ≤ w' ∧ w' ≤ 160) → (0 ≤ a' ∧ a' ≤ (tp.length : Int)) → w' = (its pw kc6 kc7 tp m t a v).1 → ((its pw kc6 kc7 tp m t a v).1 = -1 → a' = (its pw kc6 kc7 tp m t a v).2.1 ∧ ∀ j, 0 ≤ j → j < 4 → f' j = (its pw kc6 kc7 tp m t a v).2.2 j) → Q none (HW (usc (usc sc 1401 a') 1402 w') (usc ar 20 f') tx oc rl ou tl, q)), RQ K (d + 3) 3 false none cd27 16 [some (.ref 14), some (.retAddr 0), some (.retAddr 6), some (.retAddr 7), some (.ref 20), some (.int (iI t)), some (.int (iI i)), e7] [] (HW (usc (usc sc 1401 a) 1402 (-1)) (usc ar 20 f) tx oc rl ou tl, q) Q
  | 0, i, t, a, f, v, e7, hm, hi, htr, hpc, ha, hf, hk => by
    have ht1 := ht.1
    refine RQ.seg 2 (pc' := 19) (L' := [some (.ref 14), some (.retAddr 0), some (.retAddr 6), some (.retAddr 7), some (.ref 20), some (.int (iI t)), some (.int (iI i)), e7]) (st' := [.retAddr 0, .int (iI i)]) (g1 := (HW (usc (usc sc 1401 a) 1402 (-1)) (usc ar 20 f) tx oc rl ou tl, q)) rfl ?_
    refine RQ.kalen rfl hK0 ?_
    refine RQ.if2 (a := i) (b := 4) rfl rfl rfl rfl (by omega) (by omega) (fun _ => ?_) (fun (q : ¬ 4 < i) => absurd (show 4 < i from by omega) q)
    refine RQ.ret rfl rfl ?_
    exact hk _ _ _ (by omega) (by omega) rfl (fun _ => ⟨rfl, hf⟩)
  | m + 1, i, t, a, f, v, e7, hm, hi, htr, hpc, ha, hf, hk => by
    have ht1 := ht.1
    have hsk := sk_r (tp := tp) ha.2
    have hlr := tch_r ht (sk tp a)
    have hlk : 0 ≤ lk tp a ∧ lk tp a ≤ 255 := hlr
    have hpr := pw_r (lk tp a)
    have hkr : lk tp a ≠ 0 → 0 ≤ sk tp a ∧ sk tp a < (tp.length : Int) := fun z => tch_pos z
    have hkA := kr6 (pw (lk tp a))
    have hkB := kr7 (pw (lk tp a))
    refine RQ.seg 2 (pc' := 19) (L' := [some (.ref 14), some (.retAddr 0), some (.retAddr 6), some (.retAddr 7), some (.ref 20), some (.int (iI t)), some (.int (iI i)), e7]) (st' := [.retAddr 0, .int (iI i)]) (g1 := (HW (usc (usc sc 1401 a) 1402 (-1)) (usc ar 20 f) tx oc rl ou tl, q)) rfl ?_
    refine RQ.kalen rfl hK0 ?_
    refine RQ.if2 (a := i) (b := 4) rfl rfl rfl rfl (by omega) (by omega) (fun (q : 4 < i) => absurd q (show ¬ 4 < i from by omega)) (fun _ => ?_)
    refine RQ.seg 1 (pc' := 24) (L' := [some (.ref 14), some (.retAddr 0), some (.retAddr 6), some (.retAddr 7), some (.ref 20), some (.int (iI t)), some (.int (iI i)), e7]) (st' := [.ref 14]) (g1 := (HW (usc (usc sc 1401 a) 1402 (-1)) (usc ar 20 f) tx oc rl ou tl, q)) rfl ?_
    refine RQ.call rfl rfl (CallR.up (d := 1) (x_fine14t (d := 0) (sc := usc (usc sc 1401 a) 1402 (-1)) (ar := usc ar 20 f) (by show -1 ≤ (-1 : Int) ∧ (-1 : Int) ≤ 200; omega) rfl) (by omega)) ?_
    refine RQ.seg 3 (pc' := 32) (L' := [some (.ref 14), some (.retAddr 0), some (.retAddr 6), some (.retAddr 7), some (.ref 20), some (.int (iI t)), some (.int (iI i)), e7]) (st' := [.ref 14, .retAddr 0]) (g1 := (HW (usc (usc sc 1401 a) 1402 (-1)) (usc ar 20 f) tx oc rl ou tl, q)) rfl ?_
    refine RQ.call rfl rfl (CallR.up (d := 1) (x_look14 (d := 0) (sc := usc (usc sc 1401 a) 1402 (-1)) (ar := usc ar 20 f) (a := a) ht hs hl rfl ha) (by omega)) ?_
    refine RQ.hp (g1 := (HW (usc (usc sc 1401 (sk tp a)) 1402 (-1)) (usc ar 20 f) tx oc rl ou tl, q)) (HW_e (by rw [usc_sw _ 1402 1401 _ _ rfl, usc_uu _ 1401 _ _]; try rfl) rfl) ?_
    refine RQ.call rfl rfl (CallR.up (d := 1) (x_place0 (d := 0) (c := lk tp a) hK0 (by omega)) (by omega)) ?_
    refine RQ.seg 3 (pc' := 43) (L' := [some (.ref 14), some (.retAddr 0), some (.retAddr 6), some (.retAddr 7), some (.ref 20), some (.int (iI t)), some (.int (iI i)), some (.int (iI (pw (lk tp a))))]) (st' := [.int (iI (-1)), .int (iI (pw (lk tp a)))]) (g1 := (HW (usc (usc sc 1401 (sk tp a)) 1402 (-1)) (usc ar 20 f) tx oc rl ou tl, q)) rfl ?_
    refine RQ.if2 (a := (pw (lk tp a))) (b := (-1)) rfl rfl rfl rfl (by omega) (by omega) (fun (h2 : pw (lk tp a) ≠ (-1)) => ?_) (fun (h2 : ¬ pw (lk tp a) ≠ (-1)) => ?_)
    · skip
      refine RQ.seg 3 (pc' := 52) (L' := [some (.ref 14), some (.retAddr 0), some (.retAddr 6), some (.retAddr 7), some (.ref 20), some (.int (iI t)), some (.int (iI i)), some (.int (iI (pw (lk tp a))))]) (st' := [.int (iI (pw (lk tp a))), .int (iI 1), .int (iI t)]) (g1 := (HW (usc (usc sc 1401 (sk tp a)) 1402 (-1)) (usc ar 20 f) tx oc rl ou tl, q)) rfl ?_
      refine RQ.ishl1 (b := (pw (lk tp a))) rfl rfl rfl (by omega) ?_
      have hp2 := p2_r (b := pw (lk tp a)) (by omega)
      refine RQ.iandv (a := t) (b := pw (lk tp a)) rfl rfl rfl (by omega) (fun hbt => ?_) (fun hbt => ?_)
      · skip
        refine RQ.if1 (a := (2 ^ (pw (lk tp a)).toNat)) rfl rfl rfl (by omega) (fun (q : 2 ^ (pw (lk tp a)).toNat = 0) => absurd q (show ¬ 2 ^ (pw (lk tp a)).toNat = 0 from by omega)) (fun _ => ?_)
        refine RQ.seg 3 (pc' := 62) (L' := [some (.ref 14), some (.retAddr 0), some (.retAddr 6), some (.retAddr 7), some (.ref 20), some (.int (iI t)), some (.int (iI i)), some (.int (iI (pw (lk tp a))))]) (st' := [.int (iI (sk tp a)), .ref 14]) (g1 := (HW (usc (usc sc 1401 (sk tp a)) 1402 (-1)) (usc ar 20 f) tx oc rl ou tl, q)) rfl ?_
        refine RQ.call rfl rfl (CallR.up (d := 1) (x_refuse14 (d := 0) (sc := usc (usc sc 1401 (sk tp a)) 1402 (-1)) (ar := usc ar 20 f) (p := sk tp a) (by show -1 ≤ (-1) ∧ (-1) ≤ 200; omega)) (by omega)) ?_
        refine RQ.hp (g1 := (HW (usc (usc sc 1401 (sk tp a)) 1402 (sk tp a)) (usc ar 20 f) tx oc rl ou tl, q)) (HW_e (by rw [usc_uu _ 1402 _ _]; try rfl) rfl) ?_
        refine RQ.ret rfl rfl ?_
        rw [its, if_neg (by omega), if_pos hbt] at hk
        have hkq := hkr (hpr.2.2 (by omega))
        exact hk _ _ _ (by omega) (by omega) rfl (fun z => absurd z (by omega))
      · skip
        refine RQ.seg 4 (pc' := 71) (L' := [some (.ref 14), some (.retAddr 0), some (.retAddr 6), some (.retAddr 7), some (.ref 20), some (.int (iI t)), some (.int (iI i)), some (.int (iI (pw (lk tp a))))]) (st' := [.int (iI (pw (lk tp a))), .int (iI 1), .int (iI t)]) (g1 := (HW (usc (usc sc 1401 (sk tp a)) 1402 (-1)) (usc ar 20 f) tx oc rl ou tl, q)) rfl ?_
        refine RQ.ishl1 (b := (pw (lk tp a))) rfl rfl rfl (by omega) ?_
        refine RQ.ior (a := t) (b := (pw (lk tp a))) rfl rfl rfl (by omega) (by omega) ?_
        refine RQ.seg 6 (pc' := 82) (L' := [some (.ref 14), some (.retAddr 0), some (.retAddr 6), some (.retAddr 7), some (.ref 20), some (.int (iI (orz t (pw (lk tp a))))), some (.int (iI i)), some (.int (iI (pw (lk tp a))))]) (st' := [.int ((iI (sk tp a)) + (iI 1)), .ref 14]) (g1 := (HW (usc (usc sc 1401 (sk tp a)) 1402 (-1)) (usc ar 20 f) tx oc rl ou tl, q)) rfl ?_
        refine RQ.to (L' := [some (.ref 14), some (.retAddr 0), some (.retAddr 6), some (.retAddr 7), some (.ref 20), some (.int (iI (orz t (pw (lk tp a))))), some (.int (iI i)), some (.int (iI (pw (lk tp a))))]) (st' := [.int (iI (sk tp a + 1)), .ref 14]) rfl (by simp only [iI_add, iI_sub, iI_mul, iI_neg]) ?_
        refine RQ.seg 5 (pc' := 91) (L' := [some (.ref 14), some (.retAddr 0), some (.retAddr 6), some (.retAddr 7), some (.ref 20), some (.int (iI (orz t (pw (lk tp a))))), some (.int (iI i)), some (.int (iI (pw (lk tp a))))]) (st' := [.int (iI 2), .ref 14, .int (iI (pw (lk tp a))), .ref 20]) (g1 := (HW (usc (usc sc 1401 (sk tp a + 1)) 1402 (-1)) (usc ar 20 f) tx oc rl ou tl, q)) rfl ?_
        have hne : lk tp a ≠ 0 := hpr.2.2 (by omega)
        have hkq := hkr hne
        have hnr := nmR_r (tp := tp) (k := 2) (a := sk tp a + 1) (by omega) (by omega)
        have hcall := x_number14 (K := K) (d := d + 1) (tx := tx) (oc := oc) (rl := rl) (ou := ou) (tl := tl) (q := q) (sc := usc (usc sc 1401 (sk tp a + 1)) 1402 (-1)) (ar := usc ar 20 f) (k := 2) (a := sk tp a + 1) (w0 := -1) (by omega) ht hs hl rfl (by omega) rfl (by omega)
        rw [if_pos rfl] at hcall
        refine RQ.call rfl rfl hcall ?_
        refine RQ.hp (g1 := (HW (usc (usc sc 1401 ((nmR tp 2 (sk tp a + 1)).2.2)) 1402 ((nmR tp 2 (sk tp a + 1)).1)) (usc ar 20 f) tx oc rl ou tl, q)) (HW_e (by rw [usc_sw _ 1402 1401 _ _ rfl, usc_uu _ 1401 _ _, usc_uu _ 1402 _ _]; try rfl) rfl) ?_
        refine RQ.iast (z := (pw (lk tp a))) (v := ((nmR tp 2 (sk tp a + 1)).2.1)) (g1 := (HW (usc (usc sc 1401 ((nmR tp 2 (sk tp a + 1)).2.2)) 1402 ((nmR tp 2 (sk tp a + 1)).1)) (usc ar 20 (usz f (pw (lk tp a)) ((nmR tp 2 (sk tp a + 1)).2.1))) tx oc rl ou tl, q)) rfl rfl rfl rfl (by omega) (by decide) (HWa_20 (by funext j; unfold usc; cases hb : Nat.beq j 20 <;> first | rfl | (rw [Nat.eq_of_beq_eq_true hb]; rfl))) ?_
        refine RQ.seg 2 (pc' := 99) (L' := [some (.ref 14), some (.retAddr 0), some (.retAddr 6), some (.retAddr 7), some (.ref 20), some (.int (iI (orz t (pw (lk tp a))))), some (.int (iI i)), some (.int (iI (pw (lk tp a))))]) (st' := [.int (iI (pw (lk tp a))), .ref 20]) (g1 := (HW (usc (usc sc 1401 ((nmR tp 2 (sk tp a + 1)).2.2)) 1402 ((nmR tp 2 (sk tp a + 1)).1)) (usc ar 20 (usz f (pw (lk tp a)) ((nmR tp 2 (sk tp a + 1)).2.1))) tx oc rl ou tl, q)) rfl ?_
        refine RQ.ialdv (z := (pw (lk tp a))) (v := ((nmR tp 2 (sk tp a + 1)).2.1)) rfl rfl rfl (by omega) (by decide) (show (usz f (pw (lk tp a)) ((nmR tp 2 (sk tp a + 1)).2.1)) (pw (lk tp a)) = (nmR tp 2 (sk tp a + 1)).2.1 by rw [usz_s]) ?_
        refine RQ.seg 2 (pc' := 103) (L' := [some (.ref 14), some (.retAddr 0), some (.retAddr 6), some (.retAddr 7), some (.ref 20), some (.int (iI (orz t (pw (lk tp a))))), some (.int (iI i)), some (.int (iI (pw (lk tp a))))]) (st' := [.int (iI (pw (lk tp a))), .retAddr 6, .int (iI ((nmR tp 2 (sk tp a + 1)).2.1))]) (g1 := (HW (usc (usc sc 1401 ((nmR tp 2 (sk tp a + 1)).2.2)) 1402 ((nmR tp 2 (sk tp a + 1)).1)) (usc ar 20 (usz f (pw (lk tp a)) ((nmR tp 2 (sk tp a + 1)).2.1))) tx oc rl ou tl, q)) rfl ?_
        refine RQ.kald (z := (pw (lk tp a))) rfl rfl hK6 (by omega) (by decide) ?_
        refine RQ.if2 (a := ((nmR tp 2 (sk tp a + 1)).2.1)) (b := (kc6 (pw (lk tp a)))) rfl rfl rfl rfl (by omega) (by omega) (fun (h4 : (nmR tp 2 (sk tp a + 1)).2.1 < kc6 (pw (lk tp a))) => ?_) (fun (h4 : ¬ (nmR tp 2 (sk tp a + 1)).2.1 < kc6 (pw (lk tp a))) => ?_)
        · skip
          refine RQ.seg 5 (pc' := 126) (L' := [some (.ref 14), some (.retAddr 0), some (.retAddr 6), some (.retAddr 7), some (.ref 20), some (.int (iI (orz t (pw (lk tp a))))), some (.int (iI i)), some (.int (iI (pw (lk tp a))))]) (st' := [.int ((iI ((nmR tp 2 (sk tp a + 1)).2.2)) - (iI 1)), .ref 14]) (g1 := (HW (usc (usc sc 1401 ((nmR tp 2 (sk tp a + 1)).2.2)) 1402 ((nmR tp 2 (sk tp a + 1)).1)) (usc ar 20 (usz f (pw (lk tp a)) ((nmR tp 2 (sk tp a + 1)).2.1))) tx oc rl ou tl, q)) rfl ?_
          refine RQ.to (L' := [some (.ref 14), some (.retAddr 0), some (.retAddr 6), some (.retAddr 7), some (.ref 20), some (.int (iI (orz t (pw (lk tp a))))), some (.int (iI i)), some (.int (iI (pw (lk tp a))))]) (st' := [.int (iI ((nmR tp 2 (sk tp a + 1)).2.2 - 1)), .ref 14]) rfl (by simp only [iI_add, iI_sub, iI_mul, iI_neg]) ?_
          refine RQ.call rfl rfl (CallR.up (d := 1) (x_refuse14 (d := 0) (sc := usc (usc sc 1401 ((nmR tp 2 (sk tp a + 1)).2.2)) 1402 ((nmR tp 2 (sk tp a + 1)).1)) (ar := usc ar 20 (usz f (pw (lk tp a)) ((nmR tp 2 (sk tp a + 1)).2.1))) (p := (nmR tp 2 (sk tp a + 1)).2.2 - 1) (by show -1 ≤ (nmR tp 2 (sk tp a + 1)).1 ∧ (nmR tp 2 (sk tp a + 1)).1 ≤ 200; omega)) (by omega)) ?_
          refine RQ.hp (g1 := (HW (usc (usc sc 1401 ((nmR tp 2 (sk tp a + 1)).2.2)) 1402 (if (nmR tp 2 (sk tp a + 1)).1 = -1 then (nmR tp 2 (sk tp a + 1)).2.2 - 1 else (nmR tp 2 (sk tp a + 1)).1)) (usc ar 20 (usz f (pw (lk tp a)) ((nmR tp 2 (sk tp a + 1)).2.1))) tx oc rl ou tl, q)) (HW_e (by rw [usc_uu _ 1402 _ _]; try rfl) rfl) ?_
          refine RQ.seg 2 (pc' := 16) (L' := [some (.ref 14), some (.retAddr 0), some (.retAddr 6), some (.retAddr 7), some (.ref 20), some (.int (iI (orz t (pw (lk tp a))))), some (.int ((iI i) + (iI 1))), some (.int (iI (pw (lk tp a))))]) (st' := []) (g1 := (HW (usc (usc sc 1401 ((nmR tp 2 (sk tp a + 1)).2.2)) 1402 (if (nmR tp 2 (sk tp a + 1)).1 = -1 then (nmR tp 2 (sk tp a + 1)).2.2 - 1 else (nmR tp 2 (sk tp a + 1)).1)) (usc ar 20 (usz f (pw (lk tp a)) ((nmR tp 2 (sk tp a + 1)).2.1))) tx oc rl ou tl, q)) rfl ?_
          refine RQ.to (L' := [some (.ref 14), some (.retAddr 0), some (.retAddr 6), some (.retAddr 7), some (.ref 20), some (.int (iI (orz t (pw (lk tp a))))), some (.int (iI (i + 1))), some (.int (iI (pw (lk tp a))))]) (st' := []) (by simp only [iI_add, iI_sub, iI_mul, iI_neg]) rfl ?_
          have hor := orz4 (t := t) (i := pw (lk tp a)) (by omega) (by omega) hbt
          have hir := itR_r (tp := tp) (lo := kc6 (pw (lk tp a))) (hi := kc7 (pw (lk tp a))) (a := sk tp a + 1) (by omega)
          rw [its, if_neg (by omega), if_neg hbt] at hk
          have hwv : (itR tp (kc6 (pw (lk tp a))) (kc7 (pw (lk tp a))) (sk tp a + 1)).1 = if (nmR tp 2 (sk tp a + 1)).1 = -1 then (nmR tp 2 (sk tp a + 1)).2.2 - 1 else (nmR tp 2 (sk tp a + 1)).1 := by rcases Decidable.em ((nmR tp 2 (sk tp a + 1)).1 = -1) with hq | hq; (rw [itR_o hq (by omega), if_pos hq]); (rw [itR_n hq, if_neg hq])
          have hnf : ¬ (itR tp (kc6 (pw (lk tp a))) (kc7 (pw (lk tp a))) (sk tp a + 1)).1 = -1 := by rcases Decidable.em ((nmR tp 2 (sk tp a + 1)).1 = -1) with hq | hq; (intro z9; have := hir.2.2.2 z9; rw [itR_o hq (by omega)] at this; dsimp only at this; omega); (rw [itR_n hq]; exact hq)
          rw [if_pos hnf] at hk
          rw [hwv] at hk hnf hir
          generalize (if (nmR tp 2 (sk tp a + 1)).1 = -1 then (nmR tp 2 (sk tp a + 1)).2.2 - 1 else (nmR tp 2 (sk tp a + 1)).1) = wv at hk hnf hir ⊢
          refine RQ.seg 2 (pc' := 19) (L' := [some (.ref 14), some (.retAddr 0), some (.retAddr 6), some (.retAddr 7), some (.ref 20), some (.int (iI (orz t (pw (lk tp a))))), some (.int (iI (i + 1))), some (.int (iI (pw (lk tp a))))]) (st' := [.retAddr 0, .int (iI (i + 1))]) (g1 := (HW (usc (usc sc 1401 ((nmR tp 2 (sk tp a + 1)).2.2)) 1402 wv) (usc ar 20 (usz f (pw (lk tp a)) ((nmR tp 2 (sk tp a + 1)).2.1))) tx oc rl ou tl, q)) rfl ?_
          refine RQ.kalen rfl hK0 ?_
          refine RQ.if2 (a := (i + 1)) (b := 4) rfl rfl rfl rfl (by omega) (by omega) (fun (h5 : 4 < i + 1) => ?_) (fun (h5 : ¬ 4 < i + 1) => ?_)
          · skip
            refine RQ.ret rfl rfl ?_
            exact hk _ _ _ (by omega) (by omega) rfl (fun z => absurd z (by omega))
          · skip
            refine RQ.seg 1 (pc' := 24) (L' := [some (.ref 14), some (.retAddr 0), some (.retAddr 6), some (.retAddr 7), some (.ref 20), some (.int (iI (orz t (pw (lk tp a))))), some (.int (iI (i + 1))), some (.int (iI (pw (lk tp a))))]) (st' := [.ref 14]) (g1 := (HW (usc (usc sc 1401 ((nmR tp 2 (sk tp a + 1)).2.2)) 1402 wv) (usc ar 20 (usz f (pw (lk tp a)) ((nmR tp 2 (sk tp a + 1)).2.1))) tx oc rl ou tl, q)) rfl ?_
            refine RQ.call rfl rfl (CallR.up (d := 1) (x_fine14f (d := 0) (sc := usc (usc sc 1401 ((nmR tp 2 (sk tp a + 1)).2.2)) 1402 wv) (ar := usc ar 20 (usz f (pw (lk tp a)) ((nmR tp 2 (sk tp a + 1)).2.1))) (by show -1 ≤ wv ∧ wv ≤ 200; omega) (by show ¬ wv = -1; omega)) (by omega)) ?_
            refine RQ.seg 1 (pc' := 135) (L' := [some (.ref 14), some (.retAddr 0), some (.retAddr 6), some (.retAddr 7), some (.ref 20), some (.int (iI (orz t (pw (lk tp a))))), some (.int (iI (i + 1))), some (.int (iI (pw (lk tp a))))]) (st' := []) (g1 := (HW (usc (usc sc 1401 ((nmR tp 2 (sk tp a + 1)).2.2)) 1402 wv) (usc ar 20 (usz f (pw (lk tp a)) ((nmR tp 2 (sk tp a + 1)).2.1))) tx oc rl ou tl, q)) rfl ?_
            refine RQ.ret rfl rfl ?_
            exact hk _ _ _ (by omega) (by omega) rfl (fun z => absurd z (by omega))
        · skip
          refine RQ.seg 2 (pc' := 111) (L' := [some (.ref 14), some (.retAddr 0), some (.retAddr 6), some (.retAddr 7), some (.ref 20), some (.int (iI (orz t (pw (lk tp a))))), some (.int (iI i)), some (.int (iI (pw (lk tp a))))]) (st' := [.int (iI (pw (lk tp a))), .ref 20]) (g1 := (HW (usc (usc sc 1401 ((nmR tp 2 (sk tp a + 1)).2.2)) 1402 ((nmR tp 2 (sk tp a + 1)).1)) (usc ar 20 (usz f (pw (lk tp a)) ((nmR tp 2 (sk tp a + 1)).2.1))) tx oc rl ou tl, q)) rfl ?_
          refine RQ.ialdv (z := (pw (lk tp a))) (v := ((nmR tp 2 (sk tp a + 1)).2.1)) rfl rfl rfl (by omega) (by decide) (show (usz f (pw (lk tp a)) ((nmR tp 2 (sk tp a + 1)).2.1)) (pw (lk tp a)) = (nmR tp 2 (sk tp a + 1)).2.1 by rw [usz_s]) ?_
          refine RQ.seg 2 (pc' := 115) (L' := [some (.ref 14), some (.retAddr 0), some (.retAddr 6), some (.retAddr 7), some (.ref 20), some (.int (iI (orz t (pw (lk tp a))))), some (.int (iI i)), some (.int (iI (pw (lk tp a))))]) (st' := [.int (iI (pw (lk tp a))), .retAddr 7, .int (iI ((nmR tp 2 (sk tp a + 1)).2.1))]) (g1 := (HW (usc (usc sc 1401 ((nmR tp 2 (sk tp a + 1)).2.2)) 1402 ((nmR tp 2 (sk tp a + 1)).1)) (usc ar 20 (usz f (pw (lk tp a)) ((nmR tp 2 (sk tp a + 1)).2.1))) tx oc rl ou tl, q)) rfl ?_
          refine RQ.kald (z := (pw (lk tp a))) rfl rfl hK7 (by omega) (by decide) ?_
          refine RQ.if2 (a := ((nmR tp 2 (sk tp a + 1)).2.1)) (b := (kc7 (pw (lk tp a)))) rfl rfl rfl rfl (by omega) (by omega) (fun (h6 : (nmR tp 2 (sk tp a + 1)).2.1 ≤ kc7 (pw (lk tp a))) => ?_) (fun (h6 : ¬ (nmR tp 2 (sk tp a + 1)).2.1 ≤ kc7 (pw (lk tp a))) => ?_)
          · skip
            refine RQ.seg 2 (pc' := 16) (L' := [some (.ref 14), some (.retAddr 0), some (.retAddr 6), some (.retAddr 7), some (.ref 20), some (.int (iI (orz t (pw (lk tp a))))), some (.int ((iI i) + (iI 1))), some (.int (iI (pw (lk tp a))))]) (st' := []) (g1 := (HW (usc (usc sc 1401 ((nmR tp 2 (sk tp a + 1)).2.2)) 1402 ((nmR tp 2 (sk tp a + 1)).1)) (usc ar 20 (usz f (pw (lk tp a)) ((nmR tp 2 (sk tp a + 1)).2.1))) tx oc rl ou tl, q)) rfl ?_
            refine RQ.to (L' := [some (.ref 14), some (.retAddr 0), some (.retAddr 6), some (.retAddr 7), some (.ref 20), some (.int (iI (orz t (pw (lk tp a))))), some (.int (iI (i + 1))), some (.int (iI (pw (lk tp a))))]) (st' := []) (by simp only [iI_add, iI_sub, iI_mul, iI_neg]) rfl ?_
            have hor := orz4 (t := t) (i := pw (lk tp a)) (by omega) (by omega) hbt
            have hir := itR_r (tp := tp) (lo := kc6 (pw (lk tp a))) (hi := kc7 (pw (lk tp a))) (a := sk tp a + 1) (by omega)
            rw [its, if_neg (by omega), if_neg hbt] at hk
            rcases Decidable.em ((nmR tp 2 (sk tp a + 1)).1 = -1) with hq | hq
            · rw [itR_g hq (by omega), if_neg (by omega)] at hk
              have hx9 := hnr.2.1
              rw [hq]
              refine x_itw3_l ht hs hl hK0 hK6 hK7 m (i + 1) (orz t (pw (lk tp a))) (nmR tp 2 (sk tp a + 1)).2.2 _ (usz v (pw (lk tp a)) (nmR tp 2 (sk tp a + 1)).2.1) _ (by omega) (by omega) (by omega) (by omega) (by omega) (fun j j0 j1 => ?_) hk
              by_cases ej : j = pw (lk tp a)
              · rw [ej, usz_s, usz_s]
              · rw [usz_n ej, usz_n ej]; exact hf j j0 j1
            · rw [itR_n hq, if_pos hq] at hk
              refine RQ.seg 2 (pc' := 19) (L' := [some (.ref 14), some (.retAddr 0), some (.retAddr 6), some (.retAddr 7), some (.ref 20), some (.int (iI (orz t (pw (lk tp a))))), some (.int (iI (i + 1))), some (.int (iI (pw (lk tp a))))]) (st' := [.retAddr 0, .int (iI (i + 1))]) (g1 := (HW (usc (usc sc 1401 ((nmR tp 2 (sk tp a + 1)).2.2)) 1402 ((nmR tp 2 (sk tp a + 1)).1)) (usc ar 20 (usz f (pw (lk tp a)) ((nmR tp 2 (sk tp a + 1)).2.1))) tx oc rl ou tl, q)) rfl ?_
              refine RQ.kalen rfl hK0 ?_
              refine RQ.if2 (a := (i + 1)) (b := 4) rfl rfl rfl rfl (by omega) (by omega) (fun (h7 : 4 < i + 1) => ?_) (fun (h7 : ¬ 4 < i + 1) => ?_)
              · skip
                refine RQ.ret rfl rfl ?_
                exact hk _ _ _ (by omega) (by omega) rfl (fun z => absurd z (by omega))
              · skip
                refine RQ.seg 1 (pc' := 24) (L' := [some (.ref 14), some (.retAddr 0), some (.retAddr 6), some (.retAddr 7), some (.ref 20), some (.int (iI (orz t (pw (lk tp a))))), some (.int (iI (i + 1))), some (.int (iI (pw (lk tp a))))]) (st' := [.ref 14]) (g1 := (HW (usc (usc sc 1401 ((nmR tp 2 (sk tp a + 1)).2.2)) 1402 ((nmR tp 2 (sk tp a + 1)).1)) (usc ar 20 (usz f (pw (lk tp a)) ((nmR tp 2 (sk tp a + 1)).2.1))) tx oc rl ou tl, q)) rfl ?_
                refine RQ.call rfl rfl (CallR.up (d := 1) (x_fine14f (d := 0) (sc := usc (usc sc 1401 ((nmR tp 2 (sk tp a + 1)).2.2)) 1402 ((nmR tp 2 (sk tp a + 1)).1)) (ar := usc ar 20 (usz f (pw (lk tp a)) ((nmR tp 2 (sk tp a + 1)).2.1))) (by show -1 ≤ (nmR tp 2 (sk tp a + 1)).1 ∧ (nmR tp 2 (sk tp a + 1)).1 ≤ 200; omega) (by show ¬ (nmR tp 2 (sk tp a + 1)).1 = -1; omega)) (by omega)) ?_
                refine RQ.seg 1 (pc' := 135) (L' := [some (.ref 14), some (.retAddr 0), some (.retAddr 6), some (.retAddr 7), some (.ref 20), some (.int (iI (orz t (pw (lk tp a))))), some (.int (iI (i + 1))), some (.int (iI (pw (lk tp a))))]) (st' := []) (g1 := (HW (usc (usc sc 1401 ((nmR tp 2 (sk tp a + 1)).2.2)) 1402 ((nmR tp 2 (sk tp a + 1)).1)) (usc ar 20 (usz f (pw (lk tp a)) ((nmR tp 2 (sk tp a + 1)).2.1))) tx oc rl ou tl, q)) rfl ?_
                refine RQ.ret rfl rfl ?_
                exact hk _ _ _ (by omega) (by omega) rfl (fun z => absurd z (by omega))
          · skip
            refine RQ.seg 5 (pc' := 126) (L' := [some (.ref 14), some (.retAddr 0), some (.retAddr 6), some (.retAddr 7), some (.ref 20), some (.int (iI (orz t (pw (lk tp a))))), some (.int (iI i)), some (.int (iI (pw (lk tp a))))]) (st' := [.int ((iI ((nmR tp 2 (sk tp a + 1)).2.2)) - (iI 1)), .ref 14]) (g1 := (HW (usc (usc sc 1401 ((nmR tp 2 (sk tp a + 1)).2.2)) 1402 ((nmR tp 2 (sk tp a + 1)).1)) (usc ar 20 (usz f (pw (lk tp a)) ((nmR tp 2 (sk tp a + 1)).2.1))) tx oc rl ou tl, q)) rfl ?_
            refine RQ.to (L' := [some (.ref 14), some (.retAddr 0), some (.retAddr 6), some (.retAddr 7), some (.ref 20), some (.int (iI (orz t (pw (lk tp a))))), some (.int (iI i)), some (.int (iI (pw (lk tp a))))]) (st' := [.int (iI ((nmR tp 2 (sk tp a + 1)).2.2 - 1)), .ref 14]) rfl (by simp only [iI_add, iI_sub, iI_mul, iI_neg]) ?_
            refine RQ.call rfl rfl (CallR.up (d := 1) (x_refuse14 (d := 0) (sc := usc (usc sc 1401 ((nmR tp 2 (sk tp a + 1)).2.2)) 1402 ((nmR tp 2 (sk tp a + 1)).1)) (ar := usc ar 20 (usz f (pw (lk tp a)) ((nmR tp 2 (sk tp a + 1)).2.1))) (p := (nmR tp 2 (sk tp a + 1)).2.2 - 1) (by show -1 ≤ (nmR tp 2 (sk tp a + 1)).1 ∧ (nmR tp 2 (sk tp a + 1)).1 ≤ 200; omega)) (by omega)) ?_
            refine RQ.hp (g1 := (HW (usc (usc sc 1401 ((nmR tp 2 (sk tp a + 1)).2.2)) 1402 (if (nmR tp 2 (sk tp a + 1)).1 = -1 then (nmR tp 2 (sk tp a + 1)).2.2 - 1 else (nmR tp 2 (sk tp a + 1)).1)) (usc ar 20 (usz f (pw (lk tp a)) ((nmR tp 2 (sk tp a + 1)).2.1))) tx oc rl ou tl, q)) (HW_e (by rw [usc_uu _ 1402 _ _]; try rfl) rfl) ?_
            refine RQ.seg 2 (pc' := 16) (L' := [some (.ref 14), some (.retAddr 0), some (.retAddr 6), some (.retAddr 7), some (.ref 20), some (.int (iI (orz t (pw (lk tp a))))), some (.int ((iI i) + (iI 1))), some (.int (iI (pw (lk tp a))))]) (st' := []) (g1 := (HW (usc (usc sc 1401 ((nmR tp 2 (sk tp a + 1)).2.2)) 1402 (if (nmR tp 2 (sk tp a + 1)).1 = -1 then (nmR tp 2 (sk tp a + 1)).2.2 - 1 else (nmR tp 2 (sk tp a + 1)).1)) (usc ar 20 (usz f (pw (lk tp a)) ((nmR tp 2 (sk tp a + 1)).2.1))) tx oc rl ou tl, q)) rfl ?_
            refine RQ.to (L' := [some (.ref 14), some (.retAddr 0), some (.retAddr 6), some (.retAddr 7), some (.ref 20), some (.int (iI (orz t (pw (lk tp a))))), some (.int (iI (i + 1))), some (.int (iI (pw (lk tp a))))]) (st' := []) (by simp only [iI_add, iI_sub, iI_mul, iI_neg]) rfl ?_
            have hor := orz4 (t := t) (i := pw (lk tp a)) (by omega) (by omega) hbt
            have hir := itR_r (tp := tp) (lo := kc6 (pw (lk tp a))) (hi := kc7 (pw (lk tp a))) (a := sk tp a + 1) (by omega)
            rw [its, if_neg (by omega), if_neg hbt] at hk
            have hwv : (itR tp (kc6 (pw (lk tp a))) (kc7 (pw (lk tp a))) (sk tp a + 1)).1 = if (nmR tp 2 (sk tp a + 1)).1 = -1 then (nmR tp 2 (sk tp a + 1)).2.2 - 1 else (nmR tp 2 (sk tp a + 1)).1 := by rcases Decidable.em ((nmR tp 2 (sk tp a + 1)).1 = -1) with hq | hq; (rw [itR_o hq (by omega), if_pos hq]); (rw [itR_n hq, if_neg hq])
            have hnf : ¬ (itR tp (kc6 (pw (lk tp a))) (kc7 (pw (lk tp a))) (sk tp a + 1)).1 = -1 := by rcases Decidable.em ((nmR tp 2 (sk tp a + 1)).1 = -1) with hq | hq; (intro z9; have := hir.2.2.2 z9; rw [itR_o hq (by omega)] at this; dsimp only at this; omega); (rw [itR_n hq]; exact hq)
            rw [if_pos hnf] at hk
            rw [hwv] at hk hnf hir
            generalize (if (nmR tp 2 (sk tp a + 1)).1 = -1 then (nmR tp 2 (sk tp a + 1)).2.2 - 1 else (nmR tp 2 (sk tp a + 1)).1) = wv at hk hnf hir ⊢
            refine RQ.seg 2 (pc' := 19) (L' := [some (.ref 14), some (.retAddr 0), some (.retAddr 6), some (.retAddr 7), some (.ref 20), some (.int (iI (orz t (pw (lk tp a))))), some (.int (iI (i + 1))), some (.int (iI (pw (lk tp a))))]) (st' := [.retAddr 0, .int (iI (i + 1))]) (g1 := (HW (usc (usc sc 1401 ((nmR tp 2 (sk tp a + 1)).2.2)) 1402 wv) (usc ar 20 (usz f (pw (lk tp a)) ((nmR tp 2 (sk tp a + 1)).2.1))) tx oc rl ou tl, q)) rfl ?_
            refine RQ.kalen rfl hK0 ?_
            refine RQ.if2 (a := (i + 1)) (b := 4) rfl rfl rfl rfl (by omega) (by omega) (fun (h8 : 4 < i + 1) => ?_) (fun (h8 : ¬ 4 < i + 1) => ?_)
            · skip
              refine RQ.ret rfl rfl ?_
              exact hk _ _ _ (by omega) (by omega) rfl (fun z => absurd z (by omega))
            · skip
              refine RQ.seg 1 (pc' := 24) (L' := [some (.ref 14), some (.retAddr 0), some (.retAddr 6), some (.retAddr 7), some (.ref 20), some (.int (iI (orz t (pw (lk tp a))))), some (.int (iI (i + 1))), some (.int (iI (pw (lk tp a))))]) (st' := [.ref 14]) (g1 := (HW (usc (usc sc 1401 ((nmR tp 2 (sk tp a + 1)).2.2)) 1402 wv) (usc ar 20 (usz f (pw (lk tp a)) ((nmR tp 2 (sk tp a + 1)).2.1))) tx oc rl ou tl, q)) rfl ?_
              refine RQ.call rfl rfl (CallR.up (d := 1) (x_fine14f (d := 0) (sc := usc (usc sc 1401 ((nmR tp 2 (sk tp a + 1)).2.2)) 1402 wv) (ar := usc ar 20 (usz f (pw (lk tp a)) ((nmR tp 2 (sk tp a + 1)).2.1))) (by show -1 ≤ wv ∧ wv ≤ 200; omega) (by show ¬ wv = -1; omega)) (by omega)) ?_
              refine RQ.seg 1 (pc' := 135) (L' := [some (.ref 14), some (.retAddr 0), some (.retAddr 6), some (.retAddr 7), some (.ref 20), some (.int (iI (orz t (pw (lk tp a))))), some (.int (iI (i + 1))), some (.int (iI (pw (lk tp a))))]) (st' := []) (g1 := (HW (usc (usc sc 1401 ((nmR tp 2 (sk tp a + 1)).2.2)) 1402 wv) (usc ar 20 (usz f (pw (lk tp a)) ((nmR tp 2 (sk tp a + 1)).2.1))) tx oc rl ou tl, q)) rfl ?_
              refine RQ.ret rfl rfl ?_
              exact hk _ _ _ (by omega) (by omega) rfl (fun z => absurd z (by omega))
    · skip
      refine RQ.ret rfl rfl ?_
      rw [its, if_pos (by omega)] at hk
      exact hk _ _ _ (by omega) (by omega) rfl (fun _ => ⟨rfl, hf⟩)
theorem x_itb0_l {K : PK} {d : Nat} {sc : Nat → Int} {ar : Nat → Int → Int} {tx oc : Nat} {rl : Nat → Option Nat} {ou : Nat → Int64} {tl : List PO} {q : Nat × Nat} {Q : Option Value → PG → Prop} {tp : List Int} (ht : TpOK tp) (hs : sc 101 = (tp.length : Int)) (hl : LAt (fun v => v) (ar 2) tp) (hK1 : K 1 = some (3, zA kc1)) (hK9 : K 9 = some (3, zA kc9)) (hK10 : K 10 = some (3, zA kc10)) : ∀ (m : Nat) (i t a : Int) (f v : Int → Int) (e7 : Option Value) (hm : i + m = 4) (hi : 0 ≤ i) (htr : 0 ≤ t ∧ t < 8) (hpc : pc4 t = i) (ha : 0 ≤ a ∧ a ≤ (tp.length : Int)) (hf : ∀ j, 0 ≤ j → j < 3 → f j = v j) (hk : ∀ a' w' f', (-1 ≤ w' ∧ w' ≤ 160) → (0 ≤ a' ∧ a' ≤ (tp.length : Int)) → w' = (its pb kc9 kc10 tp m t a v).1 → ((its pb kc9 kc10 tp m t a v).1 = -1 → a' = (its pb kc9 kc10 tp m t a v).2.1 ∧ ∀ j, 0 ≤ j → j < 3 → f' j = (its pb kc9 kc10 tp m t a v).2.2 j) → Q none (HW (usc (usc sc 1401 a') 1402 w') (usc ar 22 f') tx oc rl ou tl, q)), RQ K (d + 3) 3 false none cd27 16 [some (.ref 14), some (.retAddr 1), some (.retAddr 9), some (.retAddr 10), some (.ref 22), some (.int (iI t)), some (.int (iI i)), e7] [] (HW (usc (usc sc 1401 a) 1402 (-1)) (usc ar 22 f) tx oc rl ou tl, q) Q
  | 0, i, t, a, f, v, e7, hm, hi, htr, hpc, ha, hf, hk => by
    have ht1 := ht.1
    refine RQ.seg 2 (pc' := 19) (L' := [some (.ref 14), some (.retAddr 1), some (.retAddr 9), some (.retAddr 10), some (.ref 22), some (.int (iI t)), some (.int (iI i)), e7]) (st' := [.retAddr 1, .int (iI i)]) (g1 := (HW (usc (usc sc 1401 a) 1402 (-1)) (usc ar 22 f) tx oc rl ou tl, q)) rfl ?_
    refine RQ.kalen rfl hK1 ?_
    refine RQ.if2 (a := i) (b := 3) rfl rfl rfl rfl (by omega) (by omega) (fun _ => ?_) (fun (q : ¬ 3 < i) => absurd (show 3 < i from by omega) q)
    refine RQ.ret rfl rfl ?_
    exact hk _ _ _ (by omega) (by omega) rfl (fun _ => ⟨rfl, hf⟩)
  | m + 1, i, t, a, f, v, e7, hm, hi, htr, hpc, ha, hf, hk => by
    have ht1 := ht.1
    have hsk := sk_r (tp := tp) ha.2
    have hlr := tch_r ht (sk tp a)
    have hlk : 0 ≤ lk tp a ∧ lk tp a ≤ 255 := hlr
    have hpr := pb_r (lk tp a)
    have hkr : lk tp a ≠ 0 → 0 ≤ sk tp a ∧ sk tp a < (tp.length : Int) := fun z => tch_pos z
    have hkA := kr9 (pb (lk tp a))
    have hkB := kr10 (pb (lk tp a))
    refine RQ.seg 2 (pc' := 19) (L' := [some (.ref 14), some (.retAddr 1), some (.retAddr 9), some (.retAddr 10), some (.ref 22), some (.int (iI t)), some (.int (iI i)), e7]) (st' := [.retAddr 1, .int (iI i)]) (g1 := (HW (usc (usc sc 1401 a) 1402 (-1)) (usc ar 22 f) tx oc rl ou tl, q)) rfl ?_
    refine RQ.kalen rfl hK1 ?_
    refine RQ.if2 (a := i) (b := 3) rfl rfl rfl rfl (by omega) (by omega) (fun (q : 3 < i) => absurd q (show ¬ 3 < i from by omega)) (fun _ => ?_)
    refine RQ.seg 1 (pc' := 24) (L' := [some (.ref 14), some (.retAddr 1), some (.retAddr 9), some (.retAddr 10), some (.ref 22), some (.int (iI t)), some (.int (iI i)), e7]) (st' := [.ref 14]) (g1 := (HW (usc (usc sc 1401 a) 1402 (-1)) (usc ar 22 f) tx oc rl ou tl, q)) rfl ?_
    refine RQ.call rfl rfl (CallR.up (d := 1) (x_fine14t (d := 0) (sc := usc (usc sc 1401 a) 1402 (-1)) (ar := usc ar 22 f) (by show -1 ≤ (-1 : Int) ∧ (-1 : Int) ≤ 200; omega) rfl) (by omega)) ?_
    refine RQ.seg 3 (pc' := 32) (L' := [some (.ref 14), some (.retAddr 1), some (.retAddr 9), some (.retAddr 10), some (.ref 22), some (.int (iI t)), some (.int (iI i)), e7]) (st' := [.ref 14, .retAddr 1]) (g1 := (HW (usc (usc sc 1401 a) 1402 (-1)) (usc ar 22 f) tx oc rl ou tl, q)) rfl ?_
    refine RQ.call rfl rfl (CallR.up (d := 1) (x_look14 (d := 0) (sc := usc (usc sc 1401 a) 1402 (-1)) (ar := usc ar 22 f) (a := a) ht hs hl rfl ha) (by omega)) ?_
    refine RQ.hp (g1 := (HW (usc (usc sc 1401 (sk tp a)) 1402 (-1)) (usc ar 22 f) tx oc rl ou tl, q)) (HW_e (by rw [usc_sw _ 1402 1401 _ _ rfl, usc_uu _ 1401 _ _]; try rfl) rfl) ?_
    refine RQ.call rfl rfl (CallR.up (d := 1) (x_place1 (d := 0) (c := lk tp a) hK1 (by omega)) (by omega)) ?_
    refine RQ.seg 3 (pc' := 43) (L' := [some (.ref 14), some (.retAddr 1), some (.retAddr 9), some (.retAddr 10), some (.ref 22), some (.int (iI t)), some (.int (iI i)), some (.int (iI (pb (lk tp a))))]) (st' := [.int (iI (-1)), .int (iI (pb (lk tp a)))]) (g1 := (HW (usc (usc sc 1401 (sk tp a)) 1402 (-1)) (usc ar 22 f) tx oc rl ou tl, q)) rfl ?_
    refine RQ.if2 (a := (pb (lk tp a))) (b := (-1)) rfl rfl rfl rfl (by omega) (by omega) (fun (h2 : pb (lk tp a) ≠ (-1)) => ?_) (fun (h2 : ¬ pb (lk tp a) ≠ (-1)) => ?_)
    · skip
      refine RQ.seg 3 (pc' := 52) (L' := [some (.ref 14), some (.retAddr 1), some (.retAddr 9), some (.retAddr 10), some (.ref 22), some (.int (iI t)), some (.int (iI i)), some (.int (iI (pb (lk tp a))))]) (st' := [.int (iI (pb (lk tp a))), .int (iI 1), .int (iI t)]) (g1 := (HW (usc (usc sc 1401 (sk tp a)) 1402 (-1)) (usc ar 22 f) tx oc rl ou tl, q)) rfl ?_
      refine RQ.ishl1 (b := (pb (lk tp a))) rfl rfl rfl (by omega) ?_
      have hp2 := p2_r (b := pb (lk tp a)) (by omega)
      refine RQ.iandv (a := t) (b := pb (lk tp a)) rfl rfl rfl (by omega) (fun hbt => ?_) (fun hbt => ?_)
      · skip
        refine RQ.if1 (a := (2 ^ (pb (lk tp a)).toNat)) rfl rfl rfl (by omega) (fun (q : 2 ^ (pb (lk tp a)).toNat = 0) => absurd q (show ¬ 2 ^ (pb (lk tp a)).toNat = 0 from by omega)) (fun _ => ?_)
        refine RQ.seg 3 (pc' := 62) (L' := [some (.ref 14), some (.retAddr 1), some (.retAddr 9), some (.retAddr 10), some (.ref 22), some (.int (iI t)), some (.int (iI i)), some (.int (iI (pb (lk tp a))))]) (st' := [.int (iI (sk tp a)), .ref 14]) (g1 := (HW (usc (usc sc 1401 (sk tp a)) 1402 (-1)) (usc ar 22 f) tx oc rl ou tl, q)) rfl ?_
        refine RQ.call rfl rfl (CallR.up (d := 1) (x_refuse14 (d := 0) (sc := usc (usc sc 1401 (sk tp a)) 1402 (-1)) (ar := usc ar 22 f) (p := sk tp a) (by show -1 ≤ (-1) ∧ (-1) ≤ 200; omega)) (by omega)) ?_
        refine RQ.hp (g1 := (HW (usc (usc sc 1401 (sk tp a)) 1402 (sk tp a)) (usc ar 22 f) tx oc rl ou tl, q)) (HW_e (by rw [usc_uu _ 1402 _ _]; try rfl) rfl) ?_
        refine RQ.ret rfl rfl ?_
        rw [its, if_neg (by omega), if_pos hbt] at hk
        have hkq := hkr (hpr.2.2 (by omega))
        exact hk _ _ _ (by omega) (by omega) rfl (fun z => absurd z (by omega))
      · skip
        refine RQ.seg 4 (pc' := 71) (L' := [some (.ref 14), some (.retAddr 1), some (.retAddr 9), some (.retAddr 10), some (.ref 22), some (.int (iI t)), some (.int (iI i)), some (.int (iI (pb (lk tp a))))]) (st' := [.int (iI (pb (lk tp a))), .int (iI 1), .int (iI t)]) (g1 := (HW (usc (usc sc 1401 (sk tp a)) 1402 (-1)) (usc ar 22 f) tx oc rl ou tl, q)) rfl ?_
        refine RQ.ishl1 (b := (pb (lk tp a))) rfl rfl rfl (by omega) ?_
        refine RQ.ior (a := t) (b := (pb (lk tp a))) rfl rfl rfl (by omega) (by omega) ?_
        refine RQ.seg 6 (pc' := 82) (L' := [some (.ref 14), some (.retAddr 1), some (.retAddr 9), some (.retAddr 10), some (.ref 22), some (.int (iI (orz t (pb (lk tp a))))), some (.int (iI i)), some (.int (iI (pb (lk tp a))))]) (st' := [.int ((iI (sk tp a)) + (iI 1)), .ref 14]) (g1 := (HW (usc (usc sc 1401 (sk tp a)) 1402 (-1)) (usc ar 22 f) tx oc rl ou tl, q)) rfl ?_
        refine RQ.to (L' := [some (.ref 14), some (.retAddr 1), some (.retAddr 9), some (.retAddr 10), some (.ref 22), some (.int (iI (orz t (pb (lk tp a))))), some (.int (iI i)), some (.int (iI (pb (lk tp a))))]) (st' := [.int (iI (sk tp a + 1)), .ref 14]) rfl (by simp only [iI_add, iI_sub, iI_mul, iI_neg]) ?_
        refine RQ.seg 5 (pc' := 91) (L' := [some (.ref 14), some (.retAddr 1), some (.retAddr 9), some (.retAddr 10), some (.ref 22), some (.int (iI (orz t (pb (lk tp a))))), some (.int (iI i)), some (.int (iI (pb (lk tp a))))]) (st' := [.int (iI 2), .ref 14, .int (iI (pb (lk tp a))), .ref 22]) (g1 := (HW (usc (usc sc 1401 (sk tp a + 1)) 1402 (-1)) (usc ar 22 f) tx oc rl ou tl, q)) rfl ?_
        have hne : lk tp a ≠ 0 := hpr.2.2 (by omega)
        have hkq := hkr hne
        have hnr := nmR_r (tp := tp) (k := 2) (a := sk tp a + 1) (by omega) (by omega)
        have hcall := x_number14 (K := K) (d := d + 1) (tx := tx) (oc := oc) (rl := rl) (ou := ou) (tl := tl) (q := q) (sc := usc (usc sc 1401 (sk tp a + 1)) 1402 (-1)) (ar := usc ar 22 f) (k := 2) (a := sk tp a + 1) (w0 := -1) (by omega) ht hs hl rfl (by omega) rfl (by omega)
        rw [if_pos rfl] at hcall
        refine RQ.call rfl rfl hcall ?_
        refine RQ.hp (g1 := (HW (usc (usc sc 1401 ((nmR tp 2 (sk tp a + 1)).2.2)) 1402 ((nmR tp 2 (sk tp a + 1)).1)) (usc ar 22 f) tx oc rl ou tl, q)) (HW_e (by rw [usc_sw _ 1402 1401 _ _ rfl, usc_uu _ 1401 _ _, usc_uu _ 1402 _ _]; try rfl) rfl) ?_
        refine RQ.iast (z := (pb (lk tp a))) (v := ((nmR tp 2 (sk tp a + 1)).2.1)) (g1 := (HW (usc (usc sc 1401 ((nmR tp 2 (sk tp a + 1)).2.2)) 1402 ((nmR tp 2 (sk tp a + 1)).1)) (usc ar 22 (usz f (pb (lk tp a)) ((nmR tp 2 (sk tp a + 1)).2.1))) tx oc rl ou tl, q)) rfl rfl rfl rfl (by omega) (by decide) (HWa_22 (by funext j; unfold usc; cases hb : Nat.beq j 22 <;> first | rfl | (rw [Nat.eq_of_beq_eq_true hb]; rfl))) ?_
        refine RQ.seg 2 (pc' := 99) (L' := [some (.ref 14), some (.retAddr 1), some (.retAddr 9), some (.retAddr 10), some (.ref 22), some (.int (iI (orz t (pb (lk tp a))))), some (.int (iI i)), some (.int (iI (pb (lk tp a))))]) (st' := [.int (iI (pb (lk tp a))), .ref 22]) (g1 := (HW (usc (usc sc 1401 ((nmR tp 2 (sk tp a + 1)).2.2)) 1402 ((nmR tp 2 (sk tp a + 1)).1)) (usc ar 22 (usz f (pb (lk tp a)) ((nmR tp 2 (sk tp a + 1)).2.1))) tx oc rl ou tl, q)) rfl ?_
        refine RQ.ialdv (z := (pb (lk tp a))) (v := ((nmR tp 2 (sk tp a + 1)).2.1)) rfl rfl rfl (by omega) (by decide) (show (usz f (pb (lk tp a)) ((nmR tp 2 (sk tp a + 1)).2.1)) (pb (lk tp a)) = (nmR tp 2 (sk tp a + 1)).2.1 by rw [usz_s]) ?_
        refine RQ.seg 2 (pc' := 103) (L' := [some (.ref 14), some (.retAddr 1), some (.retAddr 9), some (.retAddr 10), some (.ref 22), some (.int (iI (orz t (pb (lk tp a))))), some (.int (iI i)), some (.int (iI (pb (lk tp a))))]) (st' := [.int (iI (pb (lk tp a))), .retAddr 9, .int (iI ((nmR tp 2 (sk tp a + 1)).2.1))]) (g1 := (HW (usc (usc sc 1401 ((nmR tp 2 (sk tp a + 1)).2.2)) 1402 ((nmR tp 2 (sk tp a + 1)).1)) (usc ar 22 (usz f (pb (lk tp a)) ((nmR tp 2 (sk tp a + 1)).2.1))) tx oc rl ou tl, q)) rfl ?_
        refine RQ.kald (z := (pb (lk tp a))) rfl rfl hK9 (by omega) (by decide) ?_
        refine RQ.if2 (a := ((nmR tp 2 (sk tp a + 1)).2.1)) (b := (kc9 (pb (lk tp a)))) rfl rfl rfl rfl (by omega) (by omega) (fun (h4 : (nmR tp 2 (sk tp a + 1)).2.1 < kc9 (pb (lk tp a))) => ?_) (fun (h4 : ¬ (nmR tp 2 (sk tp a + 1)).2.1 < kc9 (pb (lk tp a))) => ?_)
        · skip
          refine RQ.seg 5 (pc' := 126) (L' := [some (.ref 14), some (.retAddr 1), some (.retAddr 9), some (.retAddr 10), some (.ref 22), some (.int (iI (orz t (pb (lk tp a))))), some (.int (iI i)), some (.int (iI (pb (lk tp a))))]) (st' := [.int ((iI ((nmR tp 2 (sk tp a + 1)).2.2)) - (iI 1)), .ref 14]) (g1 := (HW (usc (usc sc 1401 ((nmR tp 2 (sk tp a + 1)).2.2)) 1402 ((nmR tp 2 (sk tp a + 1)).1)) (usc ar 22 (usz f (pb (lk tp a)) ((nmR tp 2 (sk tp a + 1)).2.1))) tx oc rl ou tl, q)) rfl ?_
          refine RQ.to (L' := [some (.ref 14), some (.retAddr 1), some (.retAddr 9), some (.retAddr 10), some (.ref 22), some (.int (iI (orz t (pb (lk tp a))))), some (.int (iI i)), some (.int (iI (pb (lk tp a))))]) (st' := [.int (iI ((nmR tp 2 (sk tp a + 1)).2.2 - 1)), .ref 14]) rfl (by simp only [iI_add, iI_sub, iI_mul, iI_neg]) ?_
          refine RQ.call rfl rfl (CallR.up (d := 1) (x_refuse14 (d := 0) (sc := usc (usc sc 1401 ((nmR tp 2 (sk tp a + 1)).2.2)) 1402 ((nmR tp 2 (sk tp a + 1)).1)) (ar := usc ar 22 (usz f (pb (lk tp a)) ((nmR tp 2 (sk tp a + 1)).2.1))) (p := (nmR tp 2 (sk tp a + 1)).2.2 - 1) (by show -1 ≤ (nmR tp 2 (sk tp a + 1)).1 ∧ (nmR tp 2 (sk tp a + 1)).1 ≤ 200; omega)) (by omega)) ?_
          refine RQ.hp (g1 := (HW (usc (usc sc 1401 ((nmR tp 2 (sk tp a + 1)).2.2)) 1402 (if (nmR tp 2 (sk tp a + 1)).1 = -1 then (nmR tp 2 (sk tp a + 1)).2.2 - 1 else (nmR tp 2 (sk tp a + 1)).1)) (usc ar 22 (usz f (pb (lk tp a)) ((nmR tp 2 (sk tp a + 1)).2.1))) tx oc rl ou tl, q)) (HW_e (by rw [usc_uu _ 1402 _ _]; try rfl) rfl) ?_
          refine RQ.seg 2 (pc' := 16) (L' := [some (.ref 14), some (.retAddr 1), some (.retAddr 9), some (.retAddr 10), some (.ref 22), some (.int (iI (orz t (pb (lk tp a))))), some (.int ((iI i) + (iI 1))), some (.int (iI (pb (lk tp a))))]) (st' := []) (g1 := (HW (usc (usc sc 1401 ((nmR tp 2 (sk tp a + 1)).2.2)) 1402 (if (nmR tp 2 (sk tp a + 1)).1 = -1 then (nmR tp 2 (sk tp a + 1)).2.2 - 1 else (nmR tp 2 (sk tp a + 1)).1)) (usc ar 22 (usz f (pb (lk tp a)) ((nmR tp 2 (sk tp a + 1)).2.1))) tx oc rl ou tl, q)) rfl ?_
          refine RQ.to (L' := [some (.ref 14), some (.retAddr 1), some (.retAddr 9), some (.retAddr 10), some (.ref 22), some (.int (iI (orz t (pb (lk tp a))))), some (.int (iI (i + 1))), some (.int (iI (pb (lk tp a))))]) (st' := []) (by simp only [iI_add, iI_sub, iI_mul, iI_neg]) rfl ?_
          have hor := orz4 (t := t) (i := pb (lk tp a)) (by omega) (by omega) hbt
          have hir := itR_r (tp := tp) (lo := kc9 (pb (lk tp a))) (hi := kc10 (pb (lk tp a))) (a := sk tp a + 1) (by omega)
          rw [its, if_neg (by omega), if_neg hbt] at hk
          have hwv : (itR tp (kc9 (pb (lk tp a))) (kc10 (pb (lk tp a))) (sk tp a + 1)).1 = if (nmR tp 2 (sk tp a + 1)).1 = -1 then (nmR tp 2 (sk tp a + 1)).2.2 - 1 else (nmR tp 2 (sk tp a + 1)).1 := by rcases Decidable.em ((nmR tp 2 (sk tp a + 1)).1 = -1) with hq | hq; (rw [itR_o hq (by omega), if_pos hq]); (rw [itR_n hq, if_neg hq])
          have hnf : ¬ (itR tp (kc9 (pb (lk tp a))) (kc10 (pb (lk tp a))) (sk tp a + 1)).1 = -1 := by rcases Decidable.em ((nmR tp 2 (sk tp a + 1)).1 = -1) with hq | hq; (intro z9; have := hir.2.2.2 z9; rw [itR_o hq (by omega)] at this; dsimp only at this; omega); (rw [itR_n hq]; exact hq)
          rw [if_pos hnf] at hk
          rw [hwv] at hk hnf hir
          generalize (if (nmR tp 2 (sk tp a + 1)).1 = -1 then (nmR tp 2 (sk tp a + 1)).2.2 - 1 else (nmR tp 2 (sk tp a + 1)).1) = wv at hk hnf hir ⊢
          refine RQ.seg 2 (pc' := 19) (L' := [some (.ref 14), some (.retAddr 1), some (.retAddr 9), some (.retAddr 10), some (.ref 22), some (.int (iI (orz t (pb (lk tp a))))), some (.int (iI (i + 1))), some (.int (iI (pb (lk tp a))))]) (st' := [.retAddr 1, .int (iI (i + 1))]) (g1 := (HW (usc (usc sc 1401 ((nmR tp 2 (sk tp a + 1)).2.2)) 1402 wv) (usc ar 22 (usz f (pb (lk tp a)) ((nmR tp 2 (sk tp a + 1)).2.1))) tx oc rl ou tl, q)) rfl ?_
          refine RQ.kalen rfl hK1 ?_
          refine RQ.if2 (a := (i + 1)) (b := 3) rfl rfl rfl rfl (by omega) (by omega) (fun (h5 : 3 < i + 1) => ?_) (fun (h5 : ¬ 3 < i + 1) => ?_)
          · skip
            refine RQ.ret rfl rfl ?_
            exact hk _ _ _ (by omega) (by omega) rfl (fun z => absurd z (by omega))
          · skip
            refine RQ.seg 1 (pc' := 24) (L' := [some (.ref 14), some (.retAddr 1), some (.retAddr 9), some (.retAddr 10), some (.ref 22), some (.int (iI (orz t (pb (lk tp a))))), some (.int (iI (i + 1))), some (.int (iI (pb (lk tp a))))]) (st' := [.ref 14]) (g1 := (HW (usc (usc sc 1401 ((nmR tp 2 (sk tp a + 1)).2.2)) 1402 wv) (usc ar 22 (usz f (pb (lk tp a)) ((nmR tp 2 (sk tp a + 1)).2.1))) tx oc rl ou tl, q)) rfl ?_
            refine RQ.call rfl rfl (CallR.up (d := 1) (x_fine14f (d := 0) (sc := usc (usc sc 1401 ((nmR tp 2 (sk tp a + 1)).2.2)) 1402 wv) (ar := usc ar 22 (usz f (pb (lk tp a)) ((nmR tp 2 (sk tp a + 1)).2.1))) (by show -1 ≤ wv ∧ wv ≤ 200; omega) (by show ¬ wv = -1; omega)) (by omega)) ?_
            refine RQ.seg 1 (pc' := 135) (L' := [some (.ref 14), some (.retAddr 1), some (.retAddr 9), some (.retAddr 10), some (.ref 22), some (.int (iI (orz t (pb (lk tp a))))), some (.int (iI (i + 1))), some (.int (iI (pb (lk tp a))))]) (st' := []) (g1 := (HW (usc (usc sc 1401 ((nmR tp 2 (sk tp a + 1)).2.2)) 1402 wv) (usc ar 22 (usz f (pb (lk tp a)) ((nmR tp 2 (sk tp a + 1)).2.1))) tx oc rl ou tl, q)) rfl ?_
            refine RQ.ret rfl rfl ?_
            exact hk _ _ _ (by omega) (by omega) rfl (fun z => absurd z (by omega))
        · skip
          refine RQ.seg 2 (pc' := 111) (L' := [some (.ref 14), some (.retAddr 1), some (.retAddr 9), some (.retAddr 10), some (.ref 22), some (.int (iI (orz t (pb (lk tp a))))), some (.int (iI i)), some (.int (iI (pb (lk tp a))))]) (st' := [.int (iI (pb (lk tp a))), .ref 22]) (g1 := (HW (usc (usc sc 1401 ((nmR tp 2 (sk tp a + 1)).2.2)) 1402 ((nmR tp 2 (sk tp a + 1)).1)) (usc ar 22 (usz f (pb (lk tp a)) ((nmR tp 2 (sk tp a + 1)).2.1))) tx oc rl ou tl, q)) rfl ?_
          refine RQ.ialdv (z := (pb (lk tp a))) (v := ((nmR tp 2 (sk tp a + 1)).2.1)) rfl rfl rfl (by omega) (by decide) (show (usz f (pb (lk tp a)) ((nmR tp 2 (sk tp a + 1)).2.1)) (pb (lk tp a)) = (nmR tp 2 (sk tp a + 1)).2.1 by rw [usz_s]) ?_
          refine RQ.seg 2 (pc' := 115) (L' := [some (.ref 14), some (.retAddr 1), some (.retAddr 9), some (.retAddr 10), some (.ref 22), some (.int (iI (orz t (pb (lk tp a))))), some (.int (iI i)), some (.int (iI (pb (lk tp a))))]) (st' := [.int (iI (pb (lk tp a))), .retAddr 10, .int (iI ((nmR tp 2 (sk tp a + 1)).2.1))]) (g1 := (HW (usc (usc sc 1401 ((nmR tp 2 (sk tp a + 1)).2.2)) 1402 ((nmR tp 2 (sk tp a + 1)).1)) (usc ar 22 (usz f (pb (lk tp a)) ((nmR tp 2 (sk tp a + 1)).2.1))) tx oc rl ou tl, q)) rfl ?_
          refine RQ.kald (z := (pb (lk tp a))) rfl rfl hK10 (by omega) (by decide) ?_
          refine RQ.if2 (a := ((nmR tp 2 (sk tp a + 1)).2.1)) (b := (kc10 (pb (lk tp a)))) rfl rfl rfl rfl (by omega) (by omega) (fun (h6 : (nmR tp 2 (sk tp a + 1)).2.1 ≤ kc10 (pb (lk tp a))) => ?_) (fun (h6 : ¬ (nmR tp 2 (sk tp a + 1)).2.1 ≤ kc10 (pb (lk tp a))) => ?_)
          · skip
            refine RQ.seg 2 (pc' := 16) (L' := [some (.ref 14), some (.retAddr 1), some (.retAddr 9), some (.retAddr 10), some (.ref 22), some (.int (iI (orz t (pb (lk tp a))))), some (.int ((iI i) + (iI 1))), some (.int (iI (pb (lk tp a))))]) (st' := []) (g1 := (HW (usc (usc sc 1401 ((nmR tp 2 (sk tp a + 1)).2.2)) 1402 ((nmR tp 2 (sk tp a + 1)).1)) (usc ar 22 (usz f (pb (lk tp a)) ((nmR tp 2 (sk tp a + 1)).2.1))) tx oc rl ou tl, q)) rfl ?_
            refine RQ.to (L' := [some (.ref 14), some (.retAddr 1), some (.retAddr 9), some (.retAddr 10), some (.ref 22), some (.int (iI (orz t (pb (lk tp a))))), some (.int (iI (i + 1))), some (.int (iI (pb (lk tp a))))]) (st' := []) (by simp only [iI_add, iI_sub, iI_mul, iI_neg]) rfl ?_
            have hor := orz4 (t := t) (i := pb (lk tp a)) (by omega) (by omega) hbt
            have hir := itR_r (tp := tp) (lo := kc9 (pb (lk tp a))) (hi := kc10 (pb (lk tp a))) (a := sk tp a + 1) (by omega)
            rw [its, if_neg (by omega), if_neg hbt] at hk
            rcases Decidable.em ((nmR tp 2 (sk tp a + 1)).1 = -1) with hq | hq
            · rw [itR_g hq (by omega), if_neg (by omega)] at hk
              have hx9 := hnr.2.1
              rw [hq]
              refine x_itb0_l ht hs hl hK1 hK9 hK10 m (i + 1) (orz t (pb (lk tp a))) (nmR tp 2 (sk tp a + 1)).2.2 _ (usz v (pb (lk tp a)) (nmR tp 2 (sk tp a + 1)).2.1) _ (by omega) (by omega) (by omega) (by omega) (by omega) (fun j j0 j1 => ?_) hk
              by_cases ej : j = pb (lk tp a)
              · rw [ej, usz_s, usz_s]
              · rw [usz_n ej, usz_n ej]; exact hf j j0 j1
            · rw [itR_n hq, if_pos hq] at hk
              refine RQ.seg 2 (pc' := 19) (L' := [some (.ref 14), some (.retAddr 1), some (.retAddr 9), some (.retAddr 10), some (.ref 22), some (.int (iI (orz t (pb (lk tp a))))), some (.int (iI (i + 1))), some (.int (iI (pb (lk tp a))))]) (st' := [.retAddr 1, .int (iI (i + 1))]) (g1 := (HW (usc (usc sc 1401 ((nmR tp 2 (sk tp a + 1)).2.2)) 1402 ((nmR tp 2 (sk tp a + 1)).1)) (usc ar 22 (usz f (pb (lk tp a)) ((nmR tp 2 (sk tp a + 1)).2.1))) tx oc rl ou tl, q)) rfl ?_
              refine RQ.kalen rfl hK1 ?_
              refine RQ.if2 (a := (i + 1)) (b := 3) rfl rfl rfl rfl (by omega) (by omega) (fun (h7 : 3 < i + 1) => ?_) (fun (h7 : ¬ 3 < i + 1) => ?_)
              · skip
                refine RQ.ret rfl rfl ?_
                exact hk _ _ _ (by omega) (by omega) rfl (fun z => absurd z (by omega))
              · skip
                refine RQ.seg 1 (pc' := 24) (L' := [some (.ref 14), some (.retAddr 1), some (.retAddr 9), some (.retAddr 10), some (.ref 22), some (.int (iI (orz t (pb (lk tp a))))), some (.int (iI (i + 1))), some (.int (iI (pb (lk tp a))))]) (st' := [.ref 14]) (g1 := (HW (usc (usc sc 1401 ((nmR tp 2 (sk tp a + 1)).2.2)) 1402 ((nmR tp 2 (sk tp a + 1)).1)) (usc ar 22 (usz f (pb (lk tp a)) ((nmR tp 2 (sk tp a + 1)).2.1))) tx oc rl ou tl, q)) rfl ?_
                refine RQ.call rfl rfl (CallR.up (d := 1) (x_fine14f (d := 0) (sc := usc (usc sc 1401 ((nmR tp 2 (sk tp a + 1)).2.2)) 1402 ((nmR tp 2 (sk tp a + 1)).1)) (ar := usc ar 22 (usz f (pb (lk tp a)) ((nmR tp 2 (sk tp a + 1)).2.1))) (by show -1 ≤ (nmR tp 2 (sk tp a + 1)).1 ∧ (nmR tp 2 (sk tp a + 1)).1 ≤ 200; omega) (by show ¬ (nmR tp 2 (sk tp a + 1)).1 = -1; omega)) (by omega)) ?_
                refine RQ.seg 1 (pc' := 135) (L' := [some (.ref 14), some (.retAddr 1), some (.retAddr 9), some (.retAddr 10), some (.ref 22), some (.int (iI (orz t (pb (lk tp a))))), some (.int (iI (i + 1))), some (.int (iI (pb (lk tp a))))]) (st' := []) (g1 := (HW (usc (usc sc 1401 ((nmR tp 2 (sk tp a + 1)).2.2)) 1402 ((nmR tp 2 (sk tp a + 1)).1)) (usc ar 22 (usz f (pb (lk tp a)) ((nmR tp 2 (sk tp a + 1)).2.1))) tx oc rl ou tl, q)) rfl ?_
                refine RQ.ret rfl rfl ?_
                exact hk _ _ _ (by omega) (by omega) rfl (fun z => absurd z (by omega))
          · skip
            refine RQ.seg 5 (pc' := 126) (L' := [some (.ref 14), some (.retAddr 1), some (.retAddr 9), some (.retAddr 10), some (.ref 22), some (.int (iI (orz t (pb (lk tp a))))), some (.int (iI i)), some (.int (iI (pb (lk tp a))))]) (st' := [.int ((iI ((nmR tp 2 (sk tp a + 1)).2.2)) - (iI 1)), .ref 14]) (g1 := (HW (usc (usc sc 1401 ((nmR tp 2 (sk tp a + 1)).2.2)) 1402 ((nmR tp 2 (sk tp a + 1)).1)) (usc ar 22 (usz f (pb (lk tp a)) ((nmR tp 2 (sk tp a + 1)).2.1))) tx oc rl ou tl, q)) rfl ?_
            refine RQ.to (L' := [some (.ref 14), some (.retAddr 1), some (.retAddr 9), some (.retAddr 10), some (.ref 22), some (.int (iI (orz t (pb (lk tp a))))), some (.int (iI i)), some (.int (iI (pb (lk tp a))))]) (st' := [.int (iI ((nmR tp 2 (sk tp a + 1)).2.2 - 1)), .ref 14]) rfl (by simp only [iI_add, iI_sub, iI_mul, iI_neg]) ?_
            refine RQ.call rfl rfl (CallR.up (d := 1) (x_refuse14 (d := 0) (sc := usc (usc sc 1401 ((nmR tp 2 (sk tp a + 1)).2.2)) 1402 ((nmR tp 2 (sk tp a + 1)).1)) (ar := usc ar 22 (usz f (pb (lk tp a)) ((nmR tp 2 (sk tp a + 1)).2.1))) (p := (nmR tp 2 (sk tp a + 1)).2.2 - 1) (by show -1 ≤ (nmR tp 2 (sk tp a + 1)).1 ∧ (nmR tp 2 (sk tp a + 1)).1 ≤ 200; omega)) (by omega)) ?_
            refine RQ.hp (g1 := (HW (usc (usc sc 1401 ((nmR tp 2 (sk tp a + 1)).2.2)) 1402 (if (nmR tp 2 (sk tp a + 1)).1 = -1 then (nmR tp 2 (sk tp a + 1)).2.2 - 1 else (nmR tp 2 (sk tp a + 1)).1)) (usc ar 22 (usz f (pb (lk tp a)) ((nmR tp 2 (sk tp a + 1)).2.1))) tx oc rl ou tl, q)) (HW_e (by rw [usc_uu _ 1402 _ _]; try rfl) rfl) ?_
            refine RQ.seg 2 (pc' := 16) (L' := [some (.ref 14), some (.retAddr 1), some (.retAddr 9), some (.retAddr 10), some (.ref 22), some (.int (iI (orz t (pb (lk tp a))))), some (.int ((iI i) + (iI 1))), some (.int (iI (pb (lk tp a))))]) (st' := []) (g1 := (HW (usc (usc sc 1401 ((nmR tp 2 (sk tp a + 1)).2.2)) 1402 (if (nmR tp 2 (sk tp a + 1)).1 = -1 then (nmR tp 2 (sk tp a + 1)).2.2 - 1 else (nmR tp 2 (sk tp a + 1)).1)) (usc ar 22 (usz f (pb (lk tp a)) ((nmR tp 2 (sk tp a + 1)).2.1))) tx oc rl ou tl, q)) rfl ?_
            refine RQ.to (L' := [some (.ref 14), some (.retAddr 1), some (.retAddr 9), some (.retAddr 10), some (.ref 22), some (.int (iI (orz t (pb (lk tp a))))), some (.int (iI (i + 1))), some (.int (iI (pb (lk tp a))))]) (st' := []) (by simp only [iI_add, iI_sub, iI_mul, iI_neg]) rfl ?_
            have hor := orz4 (t := t) (i := pb (lk tp a)) (by omega) (by omega) hbt
            have hir := itR_r (tp := tp) (lo := kc9 (pb (lk tp a))) (hi := kc10 (pb (lk tp a))) (a := sk tp a + 1) (by omega)
            rw [its, if_neg (by omega), if_neg hbt] at hk
            have hwv : (itR tp (kc9 (pb (lk tp a))) (kc10 (pb (lk tp a))) (sk tp a + 1)).1 = if (nmR tp 2 (sk tp a + 1)).1 = -1 then (nmR tp 2 (sk tp a + 1)).2.2 - 1 else (nmR tp 2 (sk tp a + 1)).1 := by rcases Decidable.em ((nmR tp 2 (sk tp a + 1)).1 = -1) with hq | hq; (rw [itR_o hq (by omega), if_pos hq]); (rw [itR_n hq, if_neg hq])
            have hnf : ¬ (itR tp (kc9 (pb (lk tp a))) (kc10 (pb (lk tp a))) (sk tp a + 1)).1 = -1 := by rcases Decidable.em ((nmR tp 2 (sk tp a + 1)).1 = -1) with hq | hq; (intro z9; have := hir.2.2.2 z9; rw [itR_o hq (by omega)] at this; dsimp only at this; omega); (rw [itR_n hq]; exact hq)
            rw [if_pos hnf] at hk
            rw [hwv] at hk hnf hir
            generalize (if (nmR tp 2 (sk tp a + 1)).1 = -1 then (nmR tp 2 (sk tp a + 1)).2.2 - 1 else (nmR tp 2 (sk tp a + 1)).1) = wv at hk hnf hir ⊢
            refine RQ.seg 2 (pc' := 19) (L' := [some (.ref 14), some (.retAddr 1), some (.retAddr 9), some (.retAddr 10), some (.ref 22), some (.int (iI (orz t (pb (lk tp a))))), some (.int (iI (i + 1))), some (.int (iI (pb (lk tp a))))]) (st' := [.retAddr 1, .int (iI (i + 1))]) (g1 := (HW (usc (usc sc 1401 ((nmR tp 2 (sk tp a + 1)).2.2)) 1402 wv) (usc ar 22 (usz f (pb (lk tp a)) ((nmR tp 2 (sk tp a + 1)).2.1))) tx oc rl ou tl, q)) rfl ?_
            refine RQ.kalen rfl hK1 ?_
            refine RQ.if2 (a := (i + 1)) (b := 3) rfl rfl rfl rfl (by omega) (by omega) (fun (h8 : 3 < i + 1) => ?_) (fun (h8 : ¬ 3 < i + 1) => ?_)
            · skip
              refine RQ.ret rfl rfl ?_
              exact hk _ _ _ (by omega) (by omega) rfl (fun z => absurd z (by omega))
            · skip
              refine RQ.seg 1 (pc' := 24) (L' := [some (.ref 14), some (.retAddr 1), some (.retAddr 9), some (.retAddr 10), some (.ref 22), some (.int (iI (orz t (pb (lk tp a))))), some (.int (iI (i + 1))), some (.int (iI (pb (lk tp a))))]) (st' := [.ref 14]) (g1 := (HW (usc (usc sc 1401 ((nmR tp 2 (sk tp a + 1)).2.2)) 1402 wv) (usc ar 22 (usz f (pb (lk tp a)) ((nmR tp 2 (sk tp a + 1)).2.1))) tx oc rl ou tl, q)) rfl ?_
              refine RQ.call rfl rfl (CallR.up (d := 1) (x_fine14f (d := 0) (sc := usc (usc sc 1401 ((nmR tp 2 (sk tp a + 1)).2.2)) 1402 wv) (ar := usc ar 22 (usz f (pb (lk tp a)) ((nmR tp 2 (sk tp a + 1)).2.1))) (by show -1 ≤ wv ∧ wv ≤ 200; omega) (by show ¬ wv = -1; omega)) (by omega)) ?_
              refine RQ.seg 1 (pc' := 135) (L' := [some (.ref 14), some (.retAddr 1), some (.retAddr 9), some (.retAddr 10), some (.ref 22), some (.int (iI (orz t (pb (lk tp a))))), some (.int (iI (i + 1))), some (.int (iI (pb (lk tp a))))]) (st' := []) (g1 := (HW (usc (usc sc 1401 ((nmR tp 2 (sk tp a + 1)).2.2)) 1402 wv) (usc ar 22 (usz f (pb (lk tp a)) ((nmR tp 2 (sk tp a + 1)).2.1))) tx oc rl ou tl, q)) rfl ?_
              refine RQ.ret rfl rfl ?_
              exact hk _ _ _ (by omega) (by omega) rfl (fun z => absurd z (by omega))
    · skip
      refine RQ.ret rfl rfl ?_
      rw [its, if_pos (by omega)] at hk
      exact hk _ _ _ (by omega) (by omega) rfl (fun _ => ⟨rfl, hf⟩)
theorem x_itb1_l {K : PK} {d : Nat} {sc : Nat → Int} {ar : Nat → Int → Int} {tx oc : Nat} {rl : Nat → Option Nat} {ou : Nat → Int64} {tl : List PO} {q : Nat × Nat} {Q : Option Value → PG → Prop} {tp : List Int} (ht : TpOK tp) (hs : sc 101 = (tp.length : Int)) (hl : LAt (fun v => v) (ar 2) tp) (hK1 : K 1 = some (3, zA kc1)) (hK9 : K 9 = some (3, zA kc9)) (hK10 : K 10 = some (3, zA kc10)) : ∀ (m : Nat) (i t a : Int) (f v : Int → Int) (e7 : Option Value) (hm : i + m = 4) (hi : 0 ≤ i) (htr : 0 ≤ t ∧ t < 8) (hpc : pc4 t = i) (ha : 0 ≤ a ∧ a ≤ (tp.length : Int)) (hf : ∀ j, 0 ≤ j → j < 3 → f j = v j) (hk : ∀ a' w' f', (-1 ≤ w' ∧ w' ≤ 160) → (0 ≤ a' ∧ a' ≤ (tp.length : Int)) → w' = (its pb kc9 kc10 tp m t a v).1 → ((its pb kc9 kc10 tp m t a v).1 = -1 → a' = (its pb kc9 kc10 tp m t a v).2.1 ∧ ∀ j, 0 ≤ j → j < 3 → f' j = (its pb kc9 kc10 tp m t a v).2.2 j) → Q none (HW (usc (usc sc 1401 a') 1402 w') (usc ar 23 f') tx oc rl ou tl, q)), RQ K (d + 3) 3 false none cd27 16 [some (.ref 14), some (.retAddr 1), some (.retAddr 9), some (.retAddr 10), some (.ref 23), some (.int (iI t)), some (.int (iI i)), e7] [] (HW (usc (usc sc 1401 a) 1402 (-1)) (usc ar 23 f) tx oc rl ou tl, q) Q
  | 0, i, t, a, f, v, e7, hm, hi, htr, hpc, ha, hf, hk => by
    have ht1 := ht.1
    refine RQ.seg 2 (pc' := 19) (L' := [some (.ref 14), some (.retAddr 1), some (.retAddr 9), some (.retAddr 10), some (.ref 23), some (.int (iI t)), some (.int (iI i)), e7]) (st' := [.retAddr 1, .int (iI i)]) (g1 := (HW (usc (usc sc 1401 a) 1402 (-1)) (usc ar 23 f) tx oc rl ou tl, q)) rfl ?_
    refine RQ.kalen rfl hK1 ?_
    refine RQ.if2 (a := i) (b := 3) rfl rfl rfl rfl (by omega) (by omega) (fun _ => ?_) (fun (q : ¬ 3 < i) => absurd (show 3 < i from by omega) q)
    refine RQ.ret rfl rfl ?_
    exact hk _ _ _ (by omega) (by omega) rfl (fun _ => ⟨rfl, hf⟩)
  | m + 1, i, t, a, f, v, e7, hm, hi, htr, hpc, ha, hf, hk => by
    have ht1 := ht.1
    have hsk := sk_r (tp := tp) ha.2
    have hlr := tch_r ht (sk tp a)
    have hlk : 0 ≤ lk tp a ∧ lk tp a ≤ 255 := hlr
    have hpr := pb_r (lk tp a)
    have hkr : lk tp a ≠ 0 → 0 ≤ sk tp a ∧ sk tp a < (tp.length : Int) := fun z => tch_pos z
    have hkA := kr9 (pb (lk tp a))
    have hkB := kr10 (pb (lk tp a))
    refine RQ.seg 2 (pc' := 19) (L' := [some (.ref 14), some (.retAddr 1), some (.retAddr 9), some (.retAddr 10), some (.ref 23), some (.int (iI t)), some (.int (iI i)), e7]) (st' := [.retAddr 1, .int (iI i)]) (g1 := (HW (usc (usc sc 1401 a) 1402 (-1)) (usc ar 23 f) tx oc rl ou tl, q)) rfl ?_
    refine RQ.kalen rfl hK1 ?_
    refine RQ.if2 (a := i) (b := 3) rfl rfl rfl rfl (by omega) (by omega) (fun (q : 3 < i) => absurd q (show ¬ 3 < i from by omega)) (fun _ => ?_)
    refine RQ.seg 1 (pc' := 24) (L' := [some (.ref 14), some (.retAddr 1), some (.retAddr 9), some (.retAddr 10), some (.ref 23), some (.int (iI t)), some (.int (iI i)), e7]) (st' := [.ref 14]) (g1 := (HW (usc (usc sc 1401 a) 1402 (-1)) (usc ar 23 f) tx oc rl ou tl, q)) rfl ?_
    refine RQ.call rfl rfl (CallR.up (d := 1) (x_fine14t (d := 0) (sc := usc (usc sc 1401 a) 1402 (-1)) (ar := usc ar 23 f) (by show -1 ≤ (-1 : Int) ∧ (-1 : Int) ≤ 200; omega) rfl) (by omega)) ?_
    refine RQ.seg 3 (pc' := 32) (L' := [some (.ref 14), some (.retAddr 1), some (.retAddr 9), some (.retAddr 10), some (.ref 23), some (.int (iI t)), some (.int (iI i)), e7]) (st' := [.ref 14, .retAddr 1]) (g1 := (HW (usc (usc sc 1401 a) 1402 (-1)) (usc ar 23 f) tx oc rl ou tl, q)) rfl ?_
    refine RQ.call rfl rfl (CallR.up (d := 1) (x_look14 (d := 0) (sc := usc (usc sc 1401 a) 1402 (-1)) (ar := usc ar 23 f) (a := a) ht hs hl rfl ha) (by omega)) ?_
    refine RQ.hp (g1 := (HW (usc (usc sc 1401 (sk tp a)) 1402 (-1)) (usc ar 23 f) tx oc rl ou tl, q)) (HW_e (by rw [usc_sw _ 1402 1401 _ _ rfl, usc_uu _ 1401 _ _]; try rfl) rfl) ?_
    refine RQ.call rfl rfl (CallR.up (d := 1) (x_place1 (d := 0) (c := lk tp a) hK1 (by omega)) (by omega)) ?_
    refine RQ.seg 3 (pc' := 43) (L' := [some (.ref 14), some (.retAddr 1), some (.retAddr 9), some (.retAddr 10), some (.ref 23), some (.int (iI t)), some (.int (iI i)), some (.int (iI (pb (lk tp a))))]) (st' := [.int (iI (-1)), .int (iI (pb (lk tp a)))]) (g1 := (HW (usc (usc sc 1401 (sk tp a)) 1402 (-1)) (usc ar 23 f) tx oc rl ou tl, q)) rfl ?_
    refine RQ.if2 (a := (pb (lk tp a))) (b := (-1)) rfl rfl rfl rfl (by omega) (by omega) (fun (h2 : pb (lk tp a) ≠ (-1)) => ?_) (fun (h2 : ¬ pb (lk tp a) ≠ (-1)) => ?_)
    · skip
      refine RQ.seg 3 (pc' := 52) (L' := [some (.ref 14), some (.retAddr 1), some (.retAddr 9), some (.retAddr 10), some (.ref 23), some (.int (iI t)), some (.int (iI i)), some (.int (iI (pb (lk tp a))))]) (st' := [.int (iI (pb (lk tp a))), .int (iI 1), .int (iI t)]) (g1 := (HW (usc (usc sc 1401 (sk tp a)) 1402 (-1)) (usc ar 23 f) tx oc rl ou tl, q)) rfl ?_
      refine RQ.ishl1 (b := (pb (lk tp a))) rfl rfl rfl (by omega) ?_
      have hp2 := p2_r (b := pb (lk tp a)) (by omega)
      refine RQ.iandv (a := t) (b := pb (lk tp a)) rfl rfl rfl (by omega) (fun hbt => ?_) (fun hbt => ?_)
      · skip
        refine RQ.if1 (a := (2 ^ (pb (lk tp a)).toNat)) rfl rfl rfl (by omega) (fun (q : 2 ^ (pb (lk tp a)).toNat = 0) => absurd q (show ¬ 2 ^ (pb (lk tp a)).toNat = 0 from by omega)) (fun _ => ?_)
        refine RQ.seg 3 (pc' := 62) (L' := [some (.ref 14), some (.retAddr 1), some (.retAddr 9), some (.retAddr 10), some (.ref 23), some (.int (iI t)), some (.int (iI i)), some (.int (iI (pb (lk tp a))))]) (st' := [.int (iI (sk tp a)), .ref 14]) (g1 := (HW (usc (usc sc 1401 (sk tp a)) 1402 (-1)) (usc ar 23 f) tx oc rl ou tl, q)) rfl ?_
        refine RQ.call rfl rfl (CallR.up (d := 1) (x_refuse14 (d := 0) (sc := usc (usc sc 1401 (sk tp a)) 1402 (-1)) (ar := usc ar 23 f) (p := sk tp a) (by show -1 ≤ (-1) ∧ (-1) ≤ 200; omega)) (by omega)) ?_
        refine RQ.hp (g1 := (HW (usc (usc sc 1401 (sk tp a)) 1402 (sk tp a)) (usc ar 23 f) tx oc rl ou tl, q)) (HW_e (by rw [usc_uu _ 1402 _ _]; try rfl) rfl) ?_
        refine RQ.ret rfl rfl ?_
        rw [its, if_neg (by omega), if_pos hbt] at hk
        have hkq := hkr (hpr.2.2 (by omega))
        exact hk _ _ _ (by omega) (by omega) rfl (fun z => absurd z (by omega))
      · skip
        refine RQ.seg 4 (pc' := 71) (L' := [some (.ref 14), some (.retAddr 1), some (.retAddr 9), some (.retAddr 10), some (.ref 23), some (.int (iI t)), some (.int (iI i)), some (.int (iI (pb (lk tp a))))]) (st' := [.int (iI (pb (lk tp a))), .int (iI 1), .int (iI t)]) (g1 := (HW (usc (usc sc 1401 (sk tp a)) 1402 (-1)) (usc ar 23 f) tx oc rl ou tl, q)) rfl ?_
        refine RQ.ishl1 (b := (pb (lk tp a))) rfl rfl rfl (by omega) ?_
        refine RQ.ior (a := t) (b := (pb (lk tp a))) rfl rfl rfl (by omega) (by omega) ?_
        refine RQ.seg 6 (pc' := 82) (L' := [some (.ref 14), some (.retAddr 1), some (.retAddr 9), some (.retAddr 10), some (.ref 23), some (.int (iI (orz t (pb (lk tp a))))), some (.int (iI i)), some (.int (iI (pb (lk tp a))))]) (st' := [.int ((iI (sk tp a)) + (iI 1)), .ref 14]) (g1 := (HW (usc (usc sc 1401 (sk tp a)) 1402 (-1)) (usc ar 23 f) tx oc rl ou tl, q)) rfl ?_
        refine RQ.to (L' := [some (.ref 14), some (.retAddr 1), some (.retAddr 9), some (.retAddr 10), some (.ref 23), some (.int (iI (orz t (pb (lk tp a))))), some (.int (iI i)), some (.int (iI (pb (lk tp a))))]) (st' := [.int (iI (sk tp a + 1)), .ref 14]) rfl (by simp only [iI_add, iI_sub, iI_mul, iI_neg]) ?_
        refine RQ.seg 5 (pc' := 91) (L' := [some (.ref 14), some (.retAddr 1), some (.retAddr 9), some (.retAddr 10), some (.ref 23), some (.int (iI (orz t (pb (lk tp a))))), some (.int (iI i)), some (.int (iI (pb (lk tp a))))]) (st' := [.int (iI 2), .ref 14, .int (iI (pb (lk tp a))), .ref 23]) (g1 := (HW (usc (usc sc 1401 (sk tp a + 1)) 1402 (-1)) (usc ar 23 f) tx oc rl ou tl, q)) rfl ?_
        have hne : lk tp a ≠ 0 := hpr.2.2 (by omega)
        have hkq := hkr hne
        have hnr := nmR_r (tp := tp) (k := 2) (a := sk tp a + 1) (by omega) (by omega)
        have hcall := x_number14 (K := K) (d := d + 1) (tx := tx) (oc := oc) (rl := rl) (ou := ou) (tl := tl) (q := q) (sc := usc (usc sc 1401 (sk tp a + 1)) 1402 (-1)) (ar := usc ar 23 f) (k := 2) (a := sk tp a + 1) (w0 := -1) (by omega) ht hs hl rfl (by omega) rfl (by omega)
        rw [if_pos rfl] at hcall
        refine RQ.call rfl rfl hcall ?_
        refine RQ.hp (g1 := (HW (usc (usc sc 1401 ((nmR tp 2 (sk tp a + 1)).2.2)) 1402 ((nmR tp 2 (sk tp a + 1)).1)) (usc ar 23 f) tx oc rl ou tl, q)) (HW_e (by rw [usc_sw _ 1402 1401 _ _ rfl, usc_uu _ 1401 _ _, usc_uu _ 1402 _ _]; try rfl) rfl) ?_
        refine RQ.iast (z := (pb (lk tp a))) (v := ((nmR tp 2 (sk tp a + 1)).2.1)) (g1 := (HW (usc (usc sc 1401 ((nmR tp 2 (sk tp a + 1)).2.2)) 1402 ((nmR tp 2 (sk tp a + 1)).1)) (usc ar 23 (usz f (pb (lk tp a)) ((nmR tp 2 (sk tp a + 1)).2.1))) tx oc rl ou tl, q)) rfl rfl rfl rfl (by omega) (by decide) (HWa_23 (by funext j; unfold usc; cases hb : Nat.beq j 23 <;> first | rfl | (rw [Nat.eq_of_beq_eq_true hb]; rfl))) ?_
        refine RQ.seg 2 (pc' := 99) (L' := [some (.ref 14), some (.retAddr 1), some (.retAddr 9), some (.retAddr 10), some (.ref 23), some (.int (iI (orz t (pb (lk tp a))))), some (.int (iI i)), some (.int (iI (pb (lk tp a))))]) (st' := [.int (iI (pb (lk tp a))), .ref 23]) (g1 := (HW (usc (usc sc 1401 ((nmR tp 2 (sk tp a + 1)).2.2)) 1402 ((nmR tp 2 (sk tp a + 1)).1)) (usc ar 23 (usz f (pb (lk tp a)) ((nmR tp 2 (sk tp a + 1)).2.1))) tx oc rl ou tl, q)) rfl ?_
        refine RQ.ialdv (z := (pb (lk tp a))) (v := ((nmR tp 2 (sk tp a + 1)).2.1)) rfl rfl rfl (by omega) (by decide) (show (usz f (pb (lk tp a)) ((nmR tp 2 (sk tp a + 1)).2.1)) (pb (lk tp a)) = (nmR tp 2 (sk tp a + 1)).2.1 by rw [usz_s]) ?_
        refine RQ.seg 2 (pc' := 103) (L' := [some (.ref 14), some (.retAddr 1), some (.retAddr 9), some (.retAddr 10), some (.ref 23), some (.int (iI (orz t (pb (lk tp a))))), some (.int (iI i)), some (.int (iI (pb (lk tp a))))]) (st' := [.int (iI (pb (lk tp a))), .retAddr 9, .int (iI ((nmR tp 2 (sk tp a + 1)).2.1))]) (g1 := (HW (usc (usc sc 1401 ((nmR tp 2 (sk tp a + 1)).2.2)) 1402 ((nmR tp 2 (sk tp a + 1)).1)) (usc ar 23 (usz f (pb (lk tp a)) ((nmR tp 2 (sk tp a + 1)).2.1))) tx oc rl ou tl, q)) rfl ?_
        refine RQ.kald (z := (pb (lk tp a))) rfl rfl hK9 (by omega) (by decide) ?_
        refine RQ.if2 (a := ((nmR tp 2 (sk tp a + 1)).2.1)) (b := (kc9 (pb (lk tp a)))) rfl rfl rfl rfl (by omega) (by omega) (fun (h4 : (nmR tp 2 (sk tp a + 1)).2.1 < kc9 (pb (lk tp a))) => ?_) (fun (h4 : ¬ (nmR tp 2 (sk tp a + 1)).2.1 < kc9 (pb (lk tp a))) => ?_)
        · skip
          refine RQ.seg 5 (pc' := 126) (L' := [some (.ref 14), some (.retAddr 1), some (.retAddr 9), some (.retAddr 10), some (.ref 23), some (.int (iI (orz t (pb (lk tp a))))), some (.int (iI i)), some (.int (iI (pb (lk tp a))))]) (st' := [.int ((iI ((nmR tp 2 (sk tp a + 1)).2.2)) - (iI 1)), .ref 14]) (g1 := (HW (usc (usc sc 1401 ((nmR tp 2 (sk tp a + 1)).2.2)) 1402 ((nmR tp 2 (sk tp a + 1)).1)) (usc ar 23 (usz f (pb (lk tp a)) ((nmR tp 2 (sk tp a + 1)).2.1))) tx oc rl ou tl, q)) rfl ?_
          refine RQ.to (L' := [some (.ref 14), some (.retAddr 1), some (.retAddr 9), some (.retAddr 10), some (.ref 23), some (.int (iI (orz t (pb (lk tp a))))), some (.int (iI i)), some (.int (iI (pb (lk tp a))))]) (st' := [.int (iI ((nmR tp 2 (sk tp a + 1)).2.2 - 1)), .ref 14]) rfl (by simp only [iI_add, iI_sub, iI_mul, iI_neg]) ?_
          refine RQ.call rfl rfl (CallR.up (d := 1) (x_refuse14 (d := 0) (sc := usc (usc sc 1401 ((nmR tp 2 (sk tp a + 1)).2.2)) 1402 ((nmR tp 2 (sk tp a + 1)).1)) (ar := usc ar 23 (usz f (pb (lk tp a)) ((nmR tp 2 (sk tp a + 1)).2.1))) (p := (nmR tp 2 (sk tp a + 1)).2.2 - 1) (by show -1 ≤ (nmR tp 2 (sk tp a + 1)).1 ∧ (nmR tp 2 (sk tp a + 1)).1 ≤ 200; omega)) (by omega)) ?_
          refine RQ.hp (g1 := (HW (usc (usc sc 1401 ((nmR tp 2 (sk tp a + 1)).2.2)) 1402 (if (nmR tp 2 (sk tp a + 1)).1 = -1 then (nmR tp 2 (sk tp a + 1)).2.2 - 1 else (nmR tp 2 (sk tp a + 1)).1)) (usc ar 23 (usz f (pb (lk tp a)) ((nmR tp 2 (sk tp a + 1)).2.1))) tx oc rl ou tl, q)) (HW_e (by rw [usc_uu _ 1402 _ _]; try rfl) rfl) ?_
          refine RQ.seg 2 (pc' := 16) (L' := [some (.ref 14), some (.retAddr 1), some (.retAddr 9), some (.retAddr 10), some (.ref 23), some (.int (iI (orz t (pb (lk tp a))))), some (.int ((iI i) + (iI 1))), some (.int (iI (pb (lk tp a))))]) (st' := []) (g1 := (HW (usc (usc sc 1401 ((nmR tp 2 (sk tp a + 1)).2.2)) 1402 (if (nmR tp 2 (sk tp a + 1)).1 = -1 then (nmR tp 2 (sk tp a + 1)).2.2 - 1 else (nmR tp 2 (sk tp a + 1)).1)) (usc ar 23 (usz f (pb (lk tp a)) ((nmR tp 2 (sk tp a + 1)).2.1))) tx oc rl ou tl, q)) rfl ?_
          refine RQ.to (L' := [some (.ref 14), some (.retAddr 1), some (.retAddr 9), some (.retAddr 10), some (.ref 23), some (.int (iI (orz t (pb (lk tp a))))), some (.int (iI (i + 1))), some (.int (iI (pb (lk tp a))))]) (st' := []) (by simp only [iI_add, iI_sub, iI_mul, iI_neg]) rfl ?_
          have hor := orz4 (t := t) (i := pb (lk tp a)) (by omega) (by omega) hbt
          have hir := itR_r (tp := tp) (lo := kc9 (pb (lk tp a))) (hi := kc10 (pb (lk tp a))) (a := sk tp a + 1) (by omega)
          rw [its, if_neg (by omega), if_neg hbt] at hk
          have hwv : (itR tp (kc9 (pb (lk tp a))) (kc10 (pb (lk tp a))) (sk tp a + 1)).1 = if (nmR tp 2 (sk tp a + 1)).1 = -1 then (nmR tp 2 (sk tp a + 1)).2.2 - 1 else (nmR tp 2 (sk tp a + 1)).1 := by rcases Decidable.em ((nmR tp 2 (sk tp a + 1)).1 = -1) with hq | hq; (rw [itR_o hq (by omega), if_pos hq]); (rw [itR_n hq, if_neg hq])
          have hnf : ¬ (itR tp (kc9 (pb (lk tp a))) (kc10 (pb (lk tp a))) (sk tp a + 1)).1 = -1 := by rcases Decidable.em ((nmR tp 2 (sk tp a + 1)).1 = -1) with hq | hq; (intro z9; have := hir.2.2.2 z9; rw [itR_o hq (by omega)] at this; dsimp only at this; omega); (rw [itR_n hq]; exact hq)
          rw [if_pos hnf] at hk
          rw [hwv] at hk hnf hir
          generalize (if (nmR tp 2 (sk tp a + 1)).1 = -1 then (nmR tp 2 (sk tp a + 1)).2.2 - 1 else (nmR tp 2 (sk tp a + 1)).1) = wv at hk hnf hir ⊢
          refine RQ.seg 2 (pc' := 19) (L' := [some (.ref 14), some (.retAddr 1), some (.retAddr 9), some (.retAddr 10), some (.ref 23), some (.int (iI (orz t (pb (lk tp a))))), some (.int (iI (i + 1))), some (.int (iI (pb (lk tp a))))]) (st' := [.retAddr 1, .int (iI (i + 1))]) (g1 := (HW (usc (usc sc 1401 ((nmR tp 2 (sk tp a + 1)).2.2)) 1402 wv) (usc ar 23 (usz f (pb (lk tp a)) ((nmR tp 2 (sk tp a + 1)).2.1))) tx oc rl ou tl, q)) rfl ?_
          refine RQ.kalen rfl hK1 ?_
          refine RQ.if2 (a := (i + 1)) (b := 3) rfl rfl rfl rfl (by omega) (by omega) (fun (h5 : 3 < i + 1) => ?_) (fun (h5 : ¬ 3 < i + 1) => ?_)
          · skip
            refine RQ.ret rfl rfl ?_
            exact hk _ _ _ (by omega) (by omega) rfl (fun z => absurd z (by omega))
          · skip
            refine RQ.seg 1 (pc' := 24) (L' := [some (.ref 14), some (.retAddr 1), some (.retAddr 9), some (.retAddr 10), some (.ref 23), some (.int (iI (orz t (pb (lk tp a))))), some (.int (iI (i + 1))), some (.int (iI (pb (lk tp a))))]) (st' := [.ref 14]) (g1 := (HW (usc (usc sc 1401 ((nmR tp 2 (sk tp a + 1)).2.2)) 1402 wv) (usc ar 23 (usz f (pb (lk tp a)) ((nmR tp 2 (sk tp a + 1)).2.1))) tx oc rl ou tl, q)) rfl ?_
            refine RQ.call rfl rfl (CallR.up (d := 1) (x_fine14f (d := 0) (sc := usc (usc sc 1401 ((nmR tp 2 (sk tp a + 1)).2.2)) 1402 wv) (ar := usc ar 23 (usz f (pb (lk tp a)) ((nmR tp 2 (sk tp a + 1)).2.1))) (by show -1 ≤ wv ∧ wv ≤ 200; omega) (by show ¬ wv = -1; omega)) (by omega)) ?_
            refine RQ.seg 1 (pc' := 135) (L' := [some (.ref 14), some (.retAddr 1), some (.retAddr 9), some (.retAddr 10), some (.ref 23), some (.int (iI (orz t (pb (lk tp a))))), some (.int (iI (i + 1))), some (.int (iI (pb (lk tp a))))]) (st' := []) (g1 := (HW (usc (usc sc 1401 ((nmR tp 2 (sk tp a + 1)).2.2)) 1402 wv) (usc ar 23 (usz f (pb (lk tp a)) ((nmR tp 2 (sk tp a + 1)).2.1))) tx oc rl ou tl, q)) rfl ?_
            refine RQ.ret rfl rfl ?_
            exact hk _ _ _ (by omega) (by omega) rfl (fun z => absurd z (by omega))
        · skip
          refine RQ.seg 2 (pc' := 111) (L' := [some (.ref 14), some (.retAddr 1), some (.retAddr 9), some (.retAddr 10), some (.ref 23), some (.int (iI (orz t (pb (lk tp a))))), some (.int (iI i)), some (.int (iI (pb (lk tp a))))]) (st' := [.int (iI (pb (lk tp a))), .ref 23]) (g1 := (HW (usc (usc sc 1401 ((nmR tp 2 (sk tp a + 1)).2.2)) 1402 ((nmR tp 2 (sk tp a + 1)).1)) (usc ar 23 (usz f (pb (lk tp a)) ((nmR tp 2 (sk tp a + 1)).2.1))) tx oc rl ou tl, q)) rfl ?_
          refine RQ.ialdv (z := (pb (lk tp a))) (v := ((nmR tp 2 (sk tp a + 1)).2.1)) rfl rfl rfl (by omega) (by decide) (show (usz f (pb (lk tp a)) ((nmR tp 2 (sk tp a + 1)).2.1)) (pb (lk tp a)) = (nmR tp 2 (sk tp a + 1)).2.1 by rw [usz_s]) ?_
          refine RQ.seg 2 (pc' := 115) (L' := [some (.ref 14), some (.retAddr 1), some (.retAddr 9), some (.retAddr 10), some (.ref 23), some (.int (iI (orz t (pb (lk tp a))))), some (.int (iI i)), some (.int (iI (pb (lk tp a))))]) (st' := [.int (iI (pb (lk tp a))), .retAddr 10, .int (iI ((nmR tp 2 (sk tp a + 1)).2.1))]) (g1 := (HW (usc (usc sc 1401 ((nmR tp 2 (sk tp a + 1)).2.2)) 1402 ((nmR tp 2 (sk tp a + 1)).1)) (usc ar 23 (usz f (pb (lk tp a)) ((nmR tp 2 (sk tp a + 1)).2.1))) tx oc rl ou tl, q)) rfl ?_
          refine RQ.kald (z := (pb (lk tp a))) rfl rfl hK10 (by omega) (by decide) ?_
          refine RQ.if2 (a := ((nmR tp 2 (sk tp a + 1)).2.1)) (b := (kc10 (pb (lk tp a)))) rfl rfl rfl rfl (by omega) (by omega) (fun (h6 : (nmR tp 2 (sk tp a + 1)).2.1 ≤ kc10 (pb (lk tp a))) => ?_) (fun (h6 : ¬ (nmR tp 2 (sk tp a + 1)).2.1 ≤ kc10 (pb (lk tp a))) => ?_)
          · skip
            refine RQ.seg 2 (pc' := 16) (L' := [some (.ref 14), some (.retAddr 1), some (.retAddr 9), some (.retAddr 10), some (.ref 23), some (.int (iI (orz t (pb (lk tp a))))), some (.int ((iI i) + (iI 1))), some (.int (iI (pb (lk tp a))))]) (st' := []) (g1 := (HW (usc (usc sc 1401 ((nmR tp 2 (sk tp a + 1)).2.2)) 1402 ((nmR tp 2 (sk tp a + 1)).1)) (usc ar 23 (usz f (pb (lk tp a)) ((nmR tp 2 (sk tp a + 1)).2.1))) tx oc rl ou tl, q)) rfl ?_
            refine RQ.to (L' := [some (.ref 14), some (.retAddr 1), some (.retAddr 9), some (.retAddr 10), some (.ref 23), some (.int (iI (orz t (pb (lk tp a))))), some (.int (iI (i + 1))), some (.int (iI (pb (lk tp a))))]) (st' := []) (by simp only [iI_add, iI_sub, iI_mul, iI_neg]) rfl ?_
            have hor := orz4 (t := t) (i := pb (lk tp a)) (by omega) (by omega) hbt
            have hir := itR_r (tp := tp) (lo := kc9 (pb (lk tp a))) (hi := kc10 (pb (lk tp a))) (a := sk tp a + 1) (by omega)
            rw [its, if_neg (by omega), if_neg hbt] at hk
            rcases Decidable.em ((nmR tp 2 (sk tp a + 1)).1 = -1) with hq | hq
            · rw [itR_g hq (by omega), if_neg (by omega)] at hk
              have hx9 := hnr.2.1
              rw [hq]
              refine x_itb1_l ht hs hl hK1 hK9 hK10 m (i + 1) (orz t (pb (lk tp a))) (nmR tp 2 (sk tp a + 1)).2.2 _ (usz v (pb (lk tp a)) (nmR tp 2 (sk tp a + 1)).2.1) _ (by omega) (by omega) (by omega) (by omega) (by omega) (fun j j0 j1 => ?_) hk
              by_cases ej : j = pb (lk tp a)
              · rw [ej, usz_s, usz_s]
              · rw [usz_n ej, usz_n ej]; exact hf j j0 j1
            · rw [itR_n hq, if_pos hq] at hk
              refine RQ.seg 2 (pc' := 19) (L' := [some (.ref 14), some (.retAddr 1), some (.retAddr 9), some (.retAddr 10), some (.ref 23), some (.int (iI (orz t (pb (lk tp a))))), some (.int (iI (i + 1))), some (.int (iI (pb (lk tp a))))]) (st' := [.retAddr 1, .int (iI (i + 1))]) (g1 := (HW (usc (usc sc 1401 ((nmR tp 2 (sk tp a + 1)).2.2)) 1402 ((nmR tp 2 (sk tp a + 1)).1)) (usc ar 23 (usz f (pb (lk tp a)) ((nmR tp 2 (sk tp a + 1)).2.1))) tx oc rl ou tl, q)) rfl ?_
              refine RQ.kalen rfl hK1 ?_
              refine RQ.if2 (a := (i + 1)) (b := 3) rfl rfl rfl rfl (by omega) (by omega) (fun (h7 : 3 < i + 1) => ?_) (fun (h7 : ¬ 3 < i + 1) => ?_)
              · skip
                refine RQ.ret rfl rfl ?_
                exact hk _ _ _ (by omega) (by omega) rfl (fun z => absurd z (by omega))
              · skip
                refine RQ.seg 1 (pc' := 24) (L' := [some (.ref 14), some (.retAddr 1), some (.retAddr 9), some (.retAddr 10), some (.ref 23), some (.int (iI (orz t (pb (lk tp a))))), some (.int (iI (i + 1))), some (.int (iI (pb (lk tp a))))]) (st' := [.ref 14]) (g1 := (HW (usc (usc sc 1401 ((nmR tp 2 (sk tp a + 1)).2.2)) 1402 ((nmR tp 2 (sk tp a + 1)).1)) (usc ar 23 (usz f (pb (lk tp a)) ((nmR tp 2 (sk tp a + 1)).2.1))) tx oc rl ou tl, q)) rfl ?_
                refine RQ.call rfl rfl (CallR.up (d := 1) (x_fine14f (d := 0) (sc := usc (usc sc 1401 ((nmR tp 2 (sk tp a + 1)).2.2)) 1402 ((nmR tp 2 (sk tp a + 1)).1)) (ar := usc ar 23 (usz f (pb (lk tp a)) ((nmR tp 2 (sk tp a + 1)).2.1))) (by show -1 ≤ (nmR tp 2 (sk tp a + 1)).1 ∧ (nmR tp 2 (sk tp a + 1)).1 ≤ 200; omega) (by show ¬ (nmR tp 2 (sk tp a + 1)).1 = -1; omega)) (by omega)) ?_
                refine RQ.seg 1 (pc' := 135) (L' := [some (.ref 14), some (.retAddr 1), some (.retAddr 9), some (.retAddr 10), some (.ref 23), some (.int (iI (orz t (pb (lk tp a))))), some (.int (iI (i + 1))), some (.int (iI (pb (lk tp a))))]) (st' := []) (g1 := (HW (usc (usc sc 1401 ((nmR tp 2 (sk tp a + 1)).2.2)) 1402 ((nmR tp 2 (sk tp a + 1)).1)) (usc ar 23 (usz f (pb (lk tp a)) ((nmR tp 2 (sk tp a + 1)).2.1))) tx oc rl ou tl, q)) rfl ?_
                refine RQ.ret rfl rfl ?_
                exact hk _ _ _ (by omega) (by omega) rfl (fun z => absurd z (by omega))
          · skip
            refine RQ.seg 5 (pc' := 126) (L' := [some (.ref 14), some (.retAddr 1), some (.retAddr 9), some (.retAddr 10), some (.ref 23), some (.int (iI (orz t (pb (lk tp a))))), some (.int (iI i)), some (.int (iI (pb (lk tp a))))]) (st' := [.int ((iI ((nmR tp 2 (sk tp a + 1)).2.2)) - (iI 1)), .ref 14]) (g1 := (HW (usc (usc sc 1401 ((nmR tp 2 (sk tp a + 1)).2.2)) 1402 ((nmR tp 2 (sk tp a + 1)).1)) (usc ar 23 (usz f (pb (lk tp a)) ((nmR tp 2 (sk tp a + 1)).2.1))) tx oc rl ou tl, q)) rfl ?_
            refine RQ.to (L' := [some (.ref 14), some (.retAddr 1), some (.retAddr 9), some (.retAddr 10), some (.ref 23), some (.int (iI (orz t (pb (lk tp a))))), some (.int (iI i)), some (.int (iI (pb (lk tp a))))]) (st' := [.int (iI ((nmR tp 2 (sk tp a + 1)).2.2 - 1)), .ref 14]) rfl (by simp only [iI_add, iI_sub, iI_mul, iI_neg]) ?_
            refine RQ.call rfl rfl (CallR.up (d := 1) (x_refuse14 (d := 0) (sc := usc (usc sc 1401 ((nmR tp 2 (sk tp a + 1)).2.2)) 1402 ((nmR tp 2 (sk tp a + 1)).1)) (ar := usc ar 23 (usz f (pb (lk tp a)) ((nmR tp 2 (sk tp a + 1)).2.1))) (p := (nmR tp 2 (sk tp a + 1)).2.2 - 1) (by show -1 ≤ (nmR tp 2 (sk tp a + 1)).1 ∧ (nmR tp 2 (sk tp a + 1)).1 ≤ 200; omega)) (by omega)) ?_
            refine RQ.hp (g1 := (HW (usc (usc sc 1401 ((nmR tp 2 (sk tp a + 1)).2.2)) 1402 (if (nmR tp 2 (sk tp a + 1)).1 = -1 then (nmR tp 2 (sk tp a + 1)).2.2 - 1 else (nmR tp 2 (sk tp a + 1)).1)) (usc ar 23 (usz f (pb (lk tp a)) ((nmR tp 2 (sk tp a + 1)).2.1))) tx oc rl ou tl, q)) (HW_e (by rw [usc_uu _ 1402 _ _]; try rfl) rfl) ?_
            refine RQ.seg 2 (pc' := 16) (L' := [some (.ref 14), some (.retAddr 1), some (.retAddr 9), some (.retAddr 10), some (.ref 23), some (.int (iI (orz t (pb (lk tp a))))), some (.int ((iI i) + (iI 1))), some (.int (iI (pb (lk tp a))))]) (st' := []) (g1 := (HW (usc (usc sc 1401 ((nmR tp 2 (sk tp a + 1)).2.2)) 1402 (if (nmR tp 2 (sk tp a + 1)).1 = -1 then (nmR tp 2 (sk tp a + 1)).2.2 - 1 else (nmR tp 2 (sk tp a + 1)).1)) (usc ar 23 (usz f (pb (lk tp a)) ((nmR tp 2 (sk tp a + 1)).2.1))) tx oc rl ou tl, q)) rfl ?_
            refine RQ.to (L' := [some (.ref 14), some (.retAddr 1), some (.retAddr 9), some (.retAddr 10), some (.ref 23), some (.int (iI (orz t (pb (lk tp a))))), some (.int (iI (i + 1))), some (.int (iI (pb (lk tp a))))]) (st' := []) (by simp only [iI_add, iI_sub, iI_mul, iI_neg]) rfl ?_
            have hor := orz4 (t := t) (i := pb (lk tp a)) (by omega) (by omega) hbt
            have hir := itR_r (tp := tp) (lo := kc9 (pb (lk tp a))) (hi := kc10 (pb (lk tp a))) (a := sk tp a + 1) (by omega)
            rw [its, if_neg (by omega), if_neg hbt] at hk
            have hwv : (itR tp (kc9 (pb (lk tp a))) (kc10 (pb (lk tp a))) (sk tp a + 1)).1 = if (nmR tp 2 (sk tp a + 1)).1 = -1 then (nmR tp 2 (sk tp a + 1)).2.2 - 1 else (nmR tp 2 (sk tp a + 1)).1 := by rcases Decidable.em ((nmR tp 2 (sk tp a + 1)).1 = -1) with hq | hq; (rw [itR_o hq (by omega), if_pos hq]); (rw [itR_n hq, if_neg hq])
            have hnf : ¬ (itR tp (kc9 (pb (lk tp a))) (kc10 (pb (lk tp a))) (sk tp a + 1)).1 = -1 := by rcases Decidable.em ((nmR tp 2 (sk tp a + 1)).1 = -1) with hq | hq; (intro z9; have := hir.2.2.2 z9; rw [itR_o hq (by omega)] at this; dsimp only at this; omega); (rw [itR_n hq]; exact hq)
            rw [if_pos hnf] at hk
            rw [hwv] at hk hnf hir
            generalize (if (nmR tp 2 (sk tp a + 1)).1 = -1 then (nmR tp 2 (sk tp a + 1)).2.2 - 1 else (nmR tp 2 (sk tp a + 1)).1) = wv at hk hnf hir ⊢
            refine RQ.seg 2 (pc' := 19) (L' := [some (.ref 14), some (.retAddr 1), some (.retAddr 9), some (.retAddr 10), some (.ref 23), some (.int (iI (orz t (pb (lk tp a))))), some (.int (iI (i + 1))), some (.int (iI (pb (lk tp a))))]) (st' := [.retAddr 1, .int (iI (i + 1))]) (g1 := (HW (usc (usc sc 1401 ((nmR tp 2 (sk tp a + 1)).2.2)) 1402 wv) (usc ar 23 (usz f (pb (lk tp a)) ((nmR tp 2 (sk tp a + 1)).2.1))) tx oc rl ou tl, q)) rfl ?_
            refine RQ.kalen rfl hK1 ?_
            refine RQ.if2 (a := (i + 1)) (b := 3) rfl rfl rfl rfl (by omega) (by omega) (fun (h8 : 3 < i + 1) => ?_) (fun (h8 : ¬ 3 < i + 1) => ?_)
            · skip
              refine RQ.ret rfl rfl ?_
              exact hk _ _ _ (by omega) (by omega) rfl (fun z => absurd z (by omega))
            · skip
              refine RQ.seg 1 (pc' := 24) (L' := [some (.ref 14), some (.retAddr 1), some (.retAddr 9), some (.retAddr 10), some (.ref 23), some (.int (iI (orz t (pb (lk tp a))))), some (.int (iI (i + 1))), some (.int (iI (pb (lk tp a))))]) (st' := [.ref 14]) (g1 := (HW (usc (usc sc 1401 ((nmR tp 2 (sk tp a + 1)).2.2)) 1402 wv) (usc ar 23 (usz f (pb (lk tp a)) ((nmR tp 2 (sk tp a + 1)).2.1))) tx oc rl ou tl, q)) rfl ?_
              refine RQ.call rfl rfl (CallR.up (d := 1) (x_fine14f (d := 0) (sc := usc (usc sc 1401 ((nmR tp 2 (sk tp a + 1)).2.2)) 1402 wv) (ar := usc ar 23 (usz f (pb (lk tp a)) ((nmR tp 2 (sk tp a + 1)).2.1))) (by show -1 ≤ wv ∧ wv ≤ 200; omega) (by show ¬ wv = -1; omega)) (by omega)) ?_
              refine RQ.seg 1 (pc' := 135) (L' := [some (.ref 14), some (.retAddr 1), some (.retAddr 9), some (.retAddr 10), some (.ref 23), some (.int (iI (orz t (pb (lk tp a))))), some (.int (iI (i + 1))), some (.int (iI (pb (lk tp a))))]) (st' := []) (g1 := (HW (usc (usc sc 1401 ((nmR tp 2 (sk tp a + 1)).2.2)) 1402 wv) (usc ar 23 (usz f (pb (lk tp a)) ((nmR tp 2 (sk tp a + 1)).2.1))) tx oc rl ou tl, q)) rfl ?_
              refine RQ.ret rfl rfl ?_
              exact hk _ _ _ (by omega) (by omega) rfl (fun z => absurd z (by omega))
    · skip
      refine RQ.ret rfl rfl ?_
      rw [its, if_pos (by omega)] at hk
      exact hk _ _ _ (by omega) (by omega) rfl (fun _ => ⟨rfl, hf⟩)
theorem x_itb2_l {K : PK} {d : Nat} {sc : Nat → Int} {ar : Nat → Int → Int} {tx oc : Nat} {rl : Nat → Option Nat} {ou : Nat → Int64} {tl : List PO} {q : Nat × Nat} {Q : Option Value → PG → Prop} {tp : List Int} (ht : TpOK tp) (hs : sc 101 = (tp.length : Int)) (hl : LAt (fun v => v) (ar 2) tp) (hK1 : K 1 = some (3, zA kc1)) (hK9 : K 9 = some (3, zA kc9)) (hK10 : K 10 = some (3, zA kc10)) : ∀ (m : Nat) (i t a : Int) (f v : Int → Int) (e7 : Option Value) (hm : i + m = 4) (hi : 0 ≤ i) (htr : 0 ≤ t ∧ t < 8) (hpc : pc4 t = i) (ha : 0 ≤ a ∧ a ≤ (tp.length : Int)) (hf : ∀ j, 0 ≤ j → j < 3 → f j = v j) (hk : ∀ a' w' f', (-1 ≤ w' ∧ w' ≤ 160) → (0 ≤ a' ∧ a' ≤ (tp.length : Int)) → w' = (its pb kc9 kc10 tp m t a v).1 → ((its pb kc9 kc10 tp m t a v).1 = -1 → a' = (its pb kc9 kc10 tp m t a v).2.1 ∧ ∀ j, 0 ≤ j → j < 3 → f' j = (its pb kc9 kc10 tp m t a v).2.2 j) → Q none (HW (usc (usc sc 1401 a') 1402 w') (usc ar 24 f') tx oc rl ou tl, q)), RQ K (d + 3) 3 false none cd27 16 [some (.ref 14), some (.retAddr 1), some (.retAddr 9), some (.retAddr 10), some (.ref 24), some (.int (iI t)), some (.int (iI i)), e7] [] (HW (usc (usc sc 1401 a) 1402 (-1)) (usc ar 24 f) tx oc rl ou tl, q) Q
  | 0, i, t, a, f, v, e7, hm, hi, htr, hpc, ha, hf, hk => by
    have ht1 := ht.1
    refine RQ.seg 2 (pc' := 19) (L' := [some (.ref 14), some (.retAddr 1), some (.retAddr 9), some (.retAddr 10), some (.ref 24), some (.int (iI t)), some (.int (iI i)), e7]) (st' := [.retAddr 1, .int (iI i)]) (g1 := (HW (usc (usc sc 1401 a) 1402 (-1)) (usc ar 24 f) tx oc rl ou tl, q)) rfl ?_
    refine RQ.kalen rfl hK1 ?_
    refine RQ.if2 (a := i) (b := 3) rfl rfl rfl rfl (by omega) (by omega) (fun _ => ?_) (fun (q : ¬ 3 < i) => absurd (show 3 < i from by omega) q)
    refine RQ.ret rfl rfl ?_
    exact hk _ _ _ (by omega) (by omega) rfl (fun _ => ⟨rfl, hf⟩)
  | m + 1, i, t, a, f, v, e7, hm, hi, htr, hpc, ha, hf, hk => by
    have ht1 := ht.1
    have hsk := sk_r (tp := tp) ha.2
    have hlr := tch_r ht (sk tp a)
    have hlk : 0 ≤ lk tp a ∧ lk tp a ≤ 255 := hlr
    have hpr := pb_r (lk tp a)
    have hkr : lk tp a ≠ 0 → 0 ≤ sk tp a ∧ sk tp a < (tp.length : Int) := fun z => tch_pos z
    have hkA := kr9 (pb (lk tp a))
    have hkB := kr10 (pb (lk tp a))
    refine RQ.seg 2 (pc' := 19) (L' := [some (.ref 14), some (.retAddr 1), some (.retAddr 9), some (.retAddr 10), some (.ref 24), some (.int (iI t)), some (.int (iI i)), e7]) (st' := [.retAddr 1, .int (iI i)]) (g1 := (HW (usc (usc sc 1401 a) 1402 (-1)) (usc ar 24 f) tx oc rl ou tl, q)) rfl ?_
    refine RQ.kalen rfl hK1 ?_
    refine RQ.if2 (a := i) (b := 3) rfl rfl rfl rfl (by omega) (by omega) (fun (q : 3 < i) => absurd q (show ¬ 3 < i from by omega)) (fun _ => ?_)
    refine RQ.seg 1 (pc' := 24) (L' := [some (.ref 14), some (.retAddr 1), some (.retAddr 9), some (.retAddr 10), some (.ref 24), some (.int (iI t)), some (.int (iI i)), e7]) (st' := [.ref 14]) (g1 := (HW (usc (usc sc 1401 a) 1402 (-1)) (usc ar 24 f) tx oc rl ou tl, q)) rfl ?_
    refine RQ.call rfl rfl (CallR.up (d := 1) (x_fine14t (d := 0) (sc := usc (usc sc 1401 a) 1402 (-1)) (ar := usc ar 24 f) (by show -1 ≤ (-1 : Int) ∧ (-1 : Int) ≤ 200; omega) rfl) (by omega)) ?_
    refine RQ.seg 3 (pc' := 32) (L' := [some (.ref 14), some (.retAddr 1), some (.retAddr 9), some (.retAddr 10), some (.ref 24), some (.int (iI t)), some (.int (iI i)), e7]) (st' := [.ref 14, .retAddr 1]) (g1 := (HW (usc (usc sc 1401 a) 1402 (-1)) (usc ar 24 f) tx oc rl ou tl, q)) rfl ?_
    refine RQ.call rfl rfl (CallR.up (d := 1) (x_look14 (d := 0) (sc := usc (usc sc 1401 a) 1402 (-1)) (ar := usc ar 24 f) (a := a) ht hs hl rfl ha) (by omega)) ?_
    refine RQ.hp (g1 := (HW (usc (usc sc 1401 (sk tp a)) 1402 (-1)) (usc ar 24 f) tx oc rl ou tl, q)) (HW_e (by rw [usc_sw _ 1402 1401 _ _ rfl, usc_uu _ 1401 _ _]; try rfl) rfl) ?_
    refine RQ.call rfl rfl (CallR.up (d := 1) (x_place1 (d := 0) (c := lk tp a) hK1 (by omega)) (by omega)) ?_
    refine RQ.seg 3 (pc' := 43) (L' := [some (.ref 14), some (.retAddr 1), some (.retAddr 9), some (.retAddr 10), some (.ref 24), some (.int (iI t)), some (.int (iI i)), some (.int (iI (pb (lk tp a))))]) (st' := [.int (iI (-1)), .int (iI (pb (lk tp a)))]) (g1 := (HW (usc (usc sc 1401 (sk tp a)) 1402 (-1)) (usc ar 24 f) tx oc rl ou tl, q)) rfl ?_
    refine RQ.if2 (a := (pb (lk tp a))) (b := (-1)) rfl rfl rfl rfl (by omega) (by omega) (fun (h2 : pb (lk tp a) ≠ (-1)) => ?_) (fun (h2 : ¬ pb (lk tp a) ≠ (-1)) => ?_)
    · skip
      refine RQ.seg 3 (pc' := 52) (L' := [some (.ref 14), some (.retAddr 1), some (.retAddr 9), some (.retAddr 10), some (.ref 24), some (.int (iI t)), some (.int (iI i)), some (.int (iI (pb (lk tp a))))]) (st' := [.int (iI (pb (lk tp a))), .int (iI 1), .int (iI t)]) (g1 := (HW (usc (usc sc 1401 (sk tp a)) 1402 (-1)) (usc ar 24 f) tx oc rl ou tl, q)) rfl ?_
      refine RQ.ishl1 (b := (pb (lk tp a))) rfl rfl rfl (by omega) ?_
      have hp2 := p2_r (b := pb (lk tp a)) (by omega)
      refine RQ.iandv (a := t) (b := pb (lk tp a)) rfl rfl rfl (by omega) (fun hbt => ?_) (fun hbt => ?_)
      · skip
        refine RQ.if1 (a := (2 ^ (pb (lk tp a)).toNat)) rfl rfl rfl (by omega) (fun (q : 2 ^ (pb (lk tp a)).toNat = 0) => absurd q (show ¬ 2 ^ (pb (lk tp a)).toNat = 0 from by omega)) (fun _ => ?_)
        refine RQ.seg 3 (pc' := 62) (L' := [some (.ref 14), some (.retAddr 1), some (.retAddr 9), some (.retAddr 10), some (.ref 24), some (.int (iI t)), some (.int (iI i)), some (.int (iI (pb (lk tp a))))]) (st' := [.int (iI (sk tp a)), .ref 14]) (g1 := (HW (usc (usc sc 1401 (sk tp a)) 1402 (-1)) (usc ar 24 f) tx oc rl ou tl, q)) rfl ?_
        refine RQ.call rfl rfl (CallR.up (d := 1) (x_refuse14 (d := 0) (sc := usc (usc sc 1401 (sk tp a)) 1402 (-1)) (ar := usc ar 24 f) (p := sk tp a) (by show -1 ≤ (-1) ∧ (-1) ≤ 200; omega)) (by omega)) ?_
        refine RQ.hp (g1 := (HW (usc (usc sc 1401 (sk tp a)) 1402 (sk tp a)) (usc ar 24 f) tx oc rl ou tl, q)) (HW_e (by rw [usc_uu _ 1402 _ _]; try rfl) rfl) ?_
        refine RQ.ret rfl rfl ?_
        rw [its, if_neg (by omega), if_pos hbt] at hk
        have hkq := hkr (hpr.2.2 (by omega))
        exact hk _ _ _ (by omega) (by omega) rfl (fun z => absurd z (by omega))
      · skip
        refine RQ.seg 4 (pc' := 71) (L' := [some (.ref 14), some (.retAddr 1), some (.retAddr 9), some (.retAddr 10), some (.ref 24), some (.int (iI t)), some (.int (iI i)), some (.int (iI (pb (lk tp a))))]) (st' := [.int (iI (pb (lk tp a))), .int (iI 1), .int (iI t)]) (g1 := (HW (usc (usc sc 1401 (sk tp a)) 1402 (-1)) (usc ar 24 f) tx oc rl ou tl, q)) rfl ?_
        refine RQ.ishl1 (b := (pb (lk tp a))) rfl rfl rfl (by omega) ?_
        refine RQ.ior (a := t) (b := (pb (lk tp a))) rfl rfl rfl (by omega) (by omega) ?_
        refine RQ.seg 6 (pc' := 82) (L' := [some (.ref 14), some (.retAddr 1), some (.retAddr 9), some (.retAddr 10), some (.ref 24), some (.int (iI (orz t (pb (lk tp a))))), some (.int (iI i)), some (.int (iI (pb (lk tp a))))]) (st' := [.int ((iI (sk tp a)) + (iI 1)), .ref 14]) (g1 := (HW (usc (usc sc 1401 (sk tp a)) 1402 (-1)) (usc ar 24 f) tx oc rl ou tl, q)) rfl ?_
        refine RQ.to (L' := [some (.ref 14), some (.retAddr 1), some (.retAddr 9), some (.retAddr 10), some (.ref 24), some (.int (iI (orz t (pb (lk tp a))))), some (.int (iI i)), some (.int (iI (pb (lk tp a))))]) (st' := [.int (iI (sk tp a + 1)), .ref 14]) rfl (by simp only [iI_add, iI_sub, iI_mul, iI_neg]) ?_
        refine RQ.seg 5 (pc' := 91) (L' := [some (.ref 14), some (.retAddr 1), some (.retAddr 9), some (.retAddr 10), some (.ref 24), some (.int (iI (orz t (pb (lk tp a))))), some (.int (iI i)), some (.int (iI (pb (lk tp a))))]) (st' := [.int (iI 2), .ref 14, .int (iI (pb (lk tp a))), .ref 24]) (g1 := (HW (usc (usc sc 1401 (sk tp a + 1)) 1402 (-1)) (usc ar 24 f) tx oc rl ou tl, q)) rfl ?_
        have hne : lk tp a ≠ 0 := hpr.2.2 (by omega)
        have hkq := hkr hne
        have hnr := nmR_r (tp := tp) (k := 2) (a := sk tp a + 1) (by omega) (by omega)
        have hcall := x_number14 (K := K) (d := d + 1) (tx := tx) (oc := oc) (rl := rl) (ou := ou) (tl := tl) (q := q) (sc := usc (usc sc 1401 (sk tp a + 1)) 1402 (-1)) (ar := usc ar 24 f) (k := 2) (a := sk tp a + 1) (w0 := -1) (by omega) ht hs hl rfl (by omega) rfl (by omega)
        rw [if_pos rfl] at hcall
        refine RQ.call rfl rfl hcall ?_
        refine RQ.hp (g1 := (HW (usc (usc sc 1401 ((nmR tp 2 (sk tp a + 1)).2.2)) 1402 ((nmR tp 2 (sk tp a + 1)).1)) (usc ar 24 f) tx oc rl ou tl, q)) (HW_e (by rw [usc_sw _ 1402 1401 _ _ rfl, usc_uu _ 1401 _ _, usc_uu _ 1402 _ _]; try rfl) rfl) ?_
        refine RQ.iast (z := (pb (lk tp a))) (v := ((nmR tp 2 (sk tp a + 1)).2.1)) (g1 := (HW (usc (usc sc 1401 ((nmR tp 2 (sk tp a + 1)).2.2)) 1402 ((nmR tp 2 (sk tp a + 1)).1)) (usc ar 24 (usz f (pb (lk tp a)) ((nmR tp 2 (sk tp a + 1)).2.1))) tx oc rl ou tl, q)) rfl rfl rfl rfl (by omega) (by decide) (HWa_24 (by funext j; unfold usc; cases hb : Nat.beq j 24 <;> first | rfl | (rw [Nat.eq_of_beq_eq_true hb]; rfl))) ?_
        refine RQ.seg 2 (pc' := 99) (L' := [some (.ref 14), some (.retAddr 1), some (.retAddr 9), some (.retAddr 10), some (.ref 24), some (.int (iI (orz t (pb (lk tp a))))), some (.int (iI i)), some (.int (iI (pb (lk tp a))))]) (st' := [.int (iI (pb (lk tp a))), .ref 24]) (g1 := (HW (usc (usc sc 1401 ((nmR tp 2 (sk tp a + 1)).2.2)) 1402 ((nmR tp 2 (sk tp a + 1)).1)) (usc ar 24 (usz f (pb (lk tp a)) ((nmR tp 2 (sk tp a + 1)).2.1))) tx oc rl ou tl, q)) rfl ?_
        refine RQ.ialdv (z := (pb (lk tp a))) (v := ((nmR tp 2 (sk tp a + 1)).2.1)) rfl rfl rfl (by omega) (by decide) (show (usz f (pb (lk tp a)) ((nmR tp 2 (sk tp a + 1)).2.1)) (pb (lk tp a)) = (nmR tp 2 (sk tp a + 1)).2.1 by rw [usz_s]) ?_
        refine RQ.seg 2 (pc' := 103) (L' := [some (.ref 14), some (.retAddr 1), some (.retAddr 9), some (.retAddr 10), some (.ref 24), some (.int (iI (orz t (pb (lk tp a))))), some (.int (iI i)), some (.int (iI (pb (lk tp a))))]) (st' := [.int (iI (pb (lk tp a))), .retAddr 9, .int (iI ((nmR tp 2 (sk tp a + 1)).2.1))]) (g1 := (HW (usc (usc sc 1401 ((nmR tp 2 (sk tp a + 1)).2.2)) 1402 ((nmR tp 2 (sk tp a + 1)).1)) (usc ar 24 (usz f (pb (lk tp a)) ((nmR tp 2 (sk tp a + 1)).2.1))) tx oc rl ou tl, q)) rfl ?_
        refine RQ.kald (z := (pb (lk tp a))) rfl rfl hK9 (by omega) (by decide) ?_
        refine RQ.if2 (a := ((nmR tp 2 (sk tp a + 1)).2.1)) (b := (kc9 (pb (lk tp a)))) rfl rfl rfl rfl (by omega) (by omega) (fun (h4 : (nmR tp 2 (sk tp a + 1)).2.1 < kc9 (pb (lk tp a))) => ?_) (fun (h4 : ¬ (nmR tp 2 (sk tp a + 1)).2.1 < kc9 (pb (lk tp a))) => ?_)
        · skip
          refine RQ.seg 5 (pc' := 126) (L' := [some (.ref 14), some (.retAddr 1), some (.retAddr 9), some (.retAddr 10), some (.ref 24), some (.int (iI (orz t (pb (lk tp a))))), some (.int (iI i)), some (.int (iI (pb (lk tp a))))]) (st' := [.int ((iI ((nmR tp 2 (sk tp a + 1)).2.2)) - (iI 1)), .ref 14]) (g1 := (HW (usc (usc sc 1401 ((nmR tp 2 (sk tp a + 1)).2.2)) 1402 ((nmR tp 2 (sk tp a + 1)).1)) (usc ar 24 (usz f (pb (lk tp a)) ((nmR tp 2 (sk tp a + 1)).2.1))) tx oc rl ou tl, q)) rfl ?_
          refine RQ.to (L' := [some (.ref 14), some (.retAddr 1), some (.retAddr 9), some (.retAddr 10), some (.ref 24), some (.int (iI (orz t (pb (lk tp a))))), some (.int (iI i)), some (.int (iI (pb (lk tp a))))]) (st' := [.int (iI ((nmR tp 2 (sk tp a + 1)).2.2 - 1)), .ref 14]) rfl (by simp only [iI_add, iI_sub, iI_mul, iI_neg]) ?_
          refine RQ.call rfl rfl (CallR.up (d := 1) (x_refuse14 (d := 0) (sc := usc (usc sc 1401 ((nmR tp 2 (sk tp a + 1)).2.2)) 1402 ((nmR tp 2 (sk tp a + 1)).1)) (ar := usc ar 24 (usz f (pb (lk tp a)) ((nmR tp 2 (sk tp a + 1)).2.1))) (p := (nmR tp 2 (sk tp a + 1)).2.2 - 1) (by show -1 ≤ (nmR tp 2 (sk tp a + 1)).1 ∧ (nmR tp 2 (sk tp a + 1)).1 ≤ 200; omega)) (by omega)) ?_
          refine RQ.hp (g1 := (HW (usc (usc sc 1401 ((nmR tp 2 (sk tp a + 1)).2.2)) 1402 (if (nmR tp 2 (sk tp a + 1)).1 = -1 then (nmR tp 2 (sk tp a + 1)).2.2 - 1 else (nmR tp 2 (sk tp a + 1)).1)) (usc ar 24 (usz f (pb (lk tp a)) ((nmR tp 2 (sk tp a + 1)).2.1))) tx oc rl ou tl, q)) (HW_e (by rw [usc_uu _ 1402 _ _]; try rfl) rfl) ?_
          refine RQ.seg 2 (pc' := 16) (L' := [some (.ref 14), some (.retAddr 1), some (.retAddr 9), some (.retAddr 10), some (.ref 24), some (.int (iI (orz t (pb (lk tp a))))), some (.int ((iI i) + (iI 1))), some (.int (iI (pb (lk tp a))))]) (st' := []) (g1 := (HW (usc (usc sc 1401 ((nmR tp 2 (sk tp a + 1)).2.2)) 1402 (if (nmR tp 2 (sk tp a + 1)).1 = -1 then (nmR tp 2 (sk tp a + 1)).2.2 - 1 else (nmR tp 2 (sk tp a + 1)).1)) (usc ar 24 (usz f (pb (lk tp a)) ((nmR tp 2 (sk tp a + 1)).2.1))) tx oc rl ou tl, q)) rfl ?_
          refine RQ.to (L' := [some (.ref 14), some (.retAddr 1), some (.retAddr 9), some (.retAddr 10), some (.ref 24), some (.int (iI (orz t (pb (lk tp a))))), some (.int (iI (i + 1))), some (.int (iI (pb (lk tp a))))]) (st' := []) (by simp only [iI_add, iI_sub, iI_mul, iI_neg]) rfl ?_
          have hor := orz4 (t := t) (i := pb (lk tp a)) (by omega) (by omega) hbt
          have hir := itR_r (tp := tp) (lo := kc9 (pb (lk tp a))) (hi := kc10 (pb (lk tp a))) (a := sk tp a + 1) (by omega)
          rw [its, if_neg (by omega), if_neg hbt] at hk
          have hwv : (itR tp (kc9 (pb (lk tp a))) (kc10 (pb (lk tp a))) (sk tp a + 1)).1 = if (nmR tp 2 (sk tp a + 1)).1 = -1 then (nmR tp 2 (sk tp a + 1)).2.2 - 1 else (nmR tp 2 (sk tp a + 1)).1 := by rcases Decidable.em ((nmR tp 2 (sk tp a + 1)).1 = -1) with hq | hq; (rw [itR_o hq (by omega), if_pos hq]); (rw [itR_n hq, if_neg hq])
          have hnf : ¬ (itR tp (kc9 (pb (lk tp a))) (kc10 (pb (lk tp a))) (sk tp a + 1)).1 = -1 := by rcases Decidable.em ((nmR tp 2 (sk tp a + 1)).1 = -1) with hq | hq; (intro z9; have := hir.2.2.2 z9; rw [itR_o hq (by omega)] at this; dsimp only at this; omega); (rw [itR_n hq]; exact hq)
          rw [if_pos hnf] at hk
          rw [hwv] at hk hnf hir
          generalize (if (nmR tp 2 (sk tp a + 1)).1 = -1 then (nmR tp 2 (sk tp a + 1)).2.2 - 1 else (nmR tp 2 (sk tp a + 1)).1) = wv at hk hnf hir ⊢
          refine RQ.seg 2 (pc' := 19) (L' := [some (.ref 14), some (.retAddr 1), some (.retAddr 9), some (.retAddr 10), some (.ref 24), some (.int (iI (orz t (pb (lk tp a))))), some (.int (iI (i + 1))), some (.int (iI (pb (lk tp a))))]) (st' := [.retAddr 1, .int (iI (i + 1))]) (g1 := (HW (usc (usc sc 1401 ((nmR tp 2 (sk tp a + 1)).2.2)) 1402 wv) (usc ar 24 (usz f (pb (lk tp a)) ((nmR tp 2 (sk tp a + 1)).2.1))) tx oc rl ou tl, q)) rfl ?_
          refine RQ.kalen rfl hK1 ?_
          refine RQ.if2 (a := (i + 1)) (b := 3) rfl rfl rfl rfl (by omega) (by omega) (fun (h5 : 3 < i + 1) => ?_) (fun (h5 : ¬ 3 < i + 1) => ?_)
          · skip
            refine RQ.ret rfl rfl ?_
            exact hk _ _ _ (by omega) (by omega) rfl (fun z => absurd z (by omega))
          · skip
            refine RQ.seg 1 (pc' := 24) (L' := [some (.ref 14), some (.retAddr 1), some (.retAddr 9), some (.retAddr 10), some (.ref 24), some (.int (iI (orz t (pb (lk tp a))))), some (.int (iI (i + 1))), some (.int (iI (pb (lk tp a))))]) (st' := [.ref 14]) (g1 := (HW (usc (usc sc 1401 ((nmR tp 2 (sk tp a + 1)).2.2)) 1402 wv) (usc ar 24 (usz f (pb (lk tp a)) ((nmR tp 2 (sk tp a + 1)).2.1))) tx oc rl ou tl, q)) rfl ?_
            refine RQ.call rfl rfl (CallR.up (d := 1) (x_fine14f (d := 0) (sc := usc (usc sc 1401 ((nmR tp 2 (sk tp a + 1)).2.2)) 1402 wv) (ar := usc ar 24 (usz f (pb (lk tp a)) ((nmR tp 2 (sk tp a + 1)).2.1))) (by show -1 ≤ wv ∧ wv ≤ 200; omega) (by show ¬ wv = -1; omega)) (by omega)) ?_
            refine RQ.seg 1 (pc' := 135) (L' := [some (.ref 14), some (.retAddr 1), some (.retAddr 9), some (.retAddr 10), some (.ref 24), some (.int (iI (orz t (pb (lk tp a))))), some (.int (iI (i + 1))), some (.int (iI (pb (lk tp a))))]) (st' := []) (g1 := (HW (usc (usc sc 1401 ((nmR tp 2 (sk tp a + 1)).2.2)) 1402 wv) (usc ar 24 (usz f (pb (lk tp a)) ((nmR tp 2 (sk tp a + 1)).2.1))) tx oc rl ou tl, q)) rfl ?_
            refine RQ.ret rfl rfl ?_
            exact hk _ _ _ (by omega) (by omega) rfl (fun z => absurd z (by omega))
        · skip
          refine RQ.seg 2 (pc' := 111) (L' := [some (.ref 14), some (.retAddr 1), some (.retAddr 9), some (.retAddr 10), some (.ref 24), some (.int (iI (orz t (pb (lk tp a))))), some (.int (iI i)), some (.int (iI (pb (lk tp a))))]) (st' := [.int (iI (pb (lk tp a))), .ref 24]) (g1 := (HW (usc (usc sc 1401 ((nmR tp 2 (sk tp a + 1)).2.2)) 1402 ((nmR tp 2 (sk tp a + 1)).1)) (usc ar 24 (usz f (pb (lk tp a)) ((nmR tp 2 (sk tp a + 1)).2.1))) tx oc rl ou tl, q)) rfl ?_
          refine RQ.ialdv (z := (pb (lk tp a))) (v := ((nmR tp 2 (sk tp a + 1)).2.1)) rfl rfl rfl (by omega) (by decide) (show (usz f (pb (lk tp a)) ((nmR tp 2 (sk tp a + 1)).2.1)) (pb (lk tp a)) = (nmR tp 2 (sk tp a + 1)).2.1 by rw [usz_s]) ?_
          refine RQ.seg 2 (pc' := 115) (L' := [some (.ref 14), some (.retAddr 1), some (.retAddr 9), some (.retAddr 10), some (.ref 24), some (.int (iI (orz t (pb (lk tp a))))), some (.int (iI i)), some (.int (iI (pb (lk tp a))))]) (st' := [.int (iI (pb (lk tp a))), .retAddr 10, .int (iI ((nmR tp 2 (sk tp a + 1)).2.1))]) (g1 := (HW (usc (usc sc 1401 ((nmR tp 2 (sk tp a + 1)).2.2)) 1402 ((nmR tp 2 (sk tp a + 1)).1)) (usc ar 24 (usz f (pb (lk tp a)) ((nmR tp 2 (sk tp a + 1)).2.1))) tx oc rl ou tl, q)) rfl ?_
          refine RQ.kald (z := (pb (lk tp a))) rfl rfl hK10 (by omega) (by decide) ?_
          refine RQ.if2 (a := ((nmR tp 2 (sk tp a + 1)).2.1)) (b := (kc10 (pb (lk tp a)))) rfl rfl rfl rfl (by omega) (by omega) (fun (h6 : (nmR tp 2 (sk tp a + 1)).2.1 ≤ kc10 (pb (lk tp a))) => ?_) (fun (h6 : ¬ (nmR tp 2 (sk tp a + 1)).2.1 ≤ kc10 (pb (lk tp a))) => ?_)
          · skip
            refine RQ.seg 2 (pc' := 16) (L' := [some (.ref 14), some (.retAddr 1), some (.retAddr 9), some (.retAddr 10), some (.ref 24), some (.int (iI (orz t (pb (lk tp a))))), some (.int ((iI i) + (iI 1))), some (.int (iI (pb (lk tp a))))]) (st' := []) (g1 := (HW (usc (usc sc 1401 ((nmR tp 2 (sk tp a + 1)).2.2)) 1402 ((nmR tp 2 (sk tp a + 1)).1)) (usc ar 24 (usz f (pb (lk tp a)) ((nmR tp 2 (sk tp a + 1)).2.1))) tx oc rl ou tl, q)) rfl ?_
            refine RQ.to (L' := [some (.ref 14), some (.retAddr 1), some (.retAddr 9), some (.retAddr 10), some (.ref 24), some (.int (iI (orz t (pb (lk tp a))))), some (.int (iI (i + 1))), some (.int (iI (pb (lk tp a))))]) (st' := []) (by simp only [iI_add, iI_sub, iI_mul, iI_neg]) rfl ?_
            have hor := orz4 (t := t) (i := pb (lk tp a)) (by omega) (by omega) hbt
            have hir := itR_r (tp := tp) (lo := kc9 (pb (lk tp a))) (hi := kc10 (pb (lk tp a))) (a := sk tp a + 1) (by omega)
            rw [its, if_neg (by omega), if_neg hbt] at hk
            rcases Decidable.em ((nmR tp 2 (sk tp a + 1)).1 = -1) with hq | hq
            · rw [itR_g hq (by omega), if_neg (by omega)] at hk
              have hx9 := hnr.2.1
              rw [hq]
              refine x_itb2_l ht hs hl hK1 hK9 hK10 m (i + 1) (orz t (pb (lk tp a))) (nmR tp 2 (sk tp a + 1)).2.2 _ (usz v (pb (lk tp a)) (nmR tp 2 (sk tp a + 1)).2.1) _ (by omega) (by omega) (by omega) (by omega) (by omega) (fun j j0 j1 => ?_) hk
              by_cases ej : j = pb (lk tp a)
              · rw [ej, usz_s, usz_s]
              · rw [usz_n ej, usz_n ej]; exact hf j j0 j1
            · rw [itR_n hq, if_pos hq] at hk
              refine RQ.seg 2 (pc' := 19) (L' := [some (.ref 14), some (.retAddr 1), some (.retAddr 9), some (.retAddr 10), some (.ref 24), some (.int (iI (orz t (pb (lk tp a))))), some (.int (iI (i + 1))), some (.int (iI (pb (lk tp a))))]) (st' := [.retAddr 1, .int (iI (i + 1))]) (g1 := (HW (usc (usc sc 1401 ((nmR tp 2 (sk tp a + 1)).2.2)) 1402 ((nmR tp 2 (sk tp a + 1)).1)) (usc ar 24 (usz f (pb (lk tp a)) ((nmR tp 2 (sk tp a + 1)).2.1))) tx oc rl ou tl, q)) rfl ?_
              refine RQ.kalen rfl hK1 ?_
              refine RQ.if2 (a := (i + 1)) (b := 3) rfl rfl rfl rfl (by omega) (by omega) (fun (h7 : 3 < i + 1) => ?_) (fun (h7 : ¬ 3 < i + 1) => ?_)
              · skip
                refine RQ.ret rfl rfl ?_
                exact hk _ _ _ (by omega) (by omega) rfl (fun z => absurd z (by omega))
              · skip
                refine RQ.seg 1 (pc' := 24) (L' := [some (.ref 14), some (.retAddr 1), some (.retAddr 9), some (.retAddr 10), some (.ref 24), some (.int (iI (orz t (pb (lk tp a))))), some (.int (iI (i + 1))), some (.int (iI (pb (lk tp a))))]) (st' := [.ref 14]) (g1 := (HW (usc (usc sc 1401 ((nmR tp 2 (sk tp a + 1)).2.2)) 1402 ((nmR tp 2 (sk tp a + 1)).1)) (usc ar 24 (usz f (pb (lk tp a)) ((nmR tp 2 (sk tp a + 1)).2.1))) tx oc rl ou tl, q)) rfl ?_
                refine RQ.call rfl rfl (CallR.up (d := 1) (x_fine14f (d := 0) (sc := usc (usc sc 1401 ((nmR tp 2 (sk tp a + 1)).2.2)) 1402 ((nmR tp 2 (sk tp a + 1)).1)) (ar := usc ar 24 (usz f (pb (lk tp a)) ((nmR tp 2 (sk tp a + 1)).2.1))) (by show -1 ≤ (nmR tp 2 (sk tp a + 1)).1 ∧ (nmR tp 2 (sk tp a + 1)).1 ≤ 200; omega) (by show ¬ (nmR tp 2 (sk tp a + 1)).1 = -1; omega)) (by omega)) ?_
                refine RQ.seg 1 (pc' := 135) (L' := [some (.ref 14), some (.retAddr 1), some (.retAddr 9), some (.retAddr 10), some (.ref 24), some (.int (iI (orz t (pb (lk tp a))))), some (.int (iI (i + 1))), some (.int (iI (pb (lk tp a))))]) (st' := []) (g1 := (HW (usc (usc sc 1401 ((nmR tp 2 (sk tp a + 1)).2.2)) 1402 ((nmR tp 2 (sk tp a + 1)).1)) (usc ar 24 (usz f (pb (lk tp a)) ((nmR tp 2 (sk tp a + 1)).2.1))) tx oc rl ou tl, q)) rfl ?_
                refine RQ.ret rfl rfl ?_
                exact hk _ _ _ (by omega) (by omega) rfl (fun z => absurd z (by omega))
          · skip
            refine RQ.seg 5 (pc' := 126) (L' := [some (.ref 14), some (.retAddr 1), some (.retAddr 9), some (.retAddr 10), some (.ref 24), some (.int (iI (orz t (pb (lk tp a))))), some (.int (iI i)), some (.int (iI (pb (lk tp a))))]) (st' := [.int ((iI ((nmR tp 2 (sk tp a + 1)).2.2)) - (iI 1)), .ref 14]) (g1 := (HW (usc (usc sc 1401 ((nmR tp 2 (sk tp a + 1)).2.2)) 1402 ((nmR tp 2 (sk tp a + 1)).1)) (usc ar 24 (usz f (pb (lk tp a)) ((nmR tp 2 (sk tp a + 1)).2.1))) tx oc rl ou tl, q)) rfl ?_
            refine RQ.to (L' := [some (.ref 14), some (.retAddr 1), some (.retAddr 9), some (.retAddr 10), some (.ref 24), some (.int (iI (orz t (pb (lk tp a))))), some (.int (iI i)), some (.int (iI (pb (lk tp a))))]) (st' := [.int (iI ((nmR tp 2 (sk tp a + 1)).2.2 - 1)), .ref 14]) rfl (by simp only [iI_add, iI_sub, iI_mul, iI_neg]) ?_
            refine RQ.call rfl rfl (CallR.up (d := 1) (x_refuse14 (d := 0) (sc := usc (usc sc 1401 ((nmR tp 2 (sk tp a + 1)).2.2)) 1402 ((nmR tp 2 (sk tp a + 1)).1)) (ar := usc ar 24 (usz f (pb (lk tp a)) ((nmR tp 2 (sk tp a + 1)).2.1))) (p := (nmR tp 2 (sk tp a + 1)).2.2 - 1) (by show -1 ≤ (nmR tp 2 (sk tp a + 1)).1 ∧ (nmR tp 2 (sk tp a + 1)).1 ≤ 200; omega)) (by omega)) ?_
            refine RQ.hp (g1 := (HW (usc (usc sc 1401 ((nmR tp 2 (sk tp a + 1)).2.2)) 1402 (if (nmR tp 2 (sk tp a + 1)).1 = -1 then (nmR tp 2 (sk tp a + 1)).2.2 - 1 else (nmR tp 2 (sk tp a + 1)).1)) (usc ar 24 (usz f (pb (lk tp a)) ((nmR tp 2 (sk tp a + 1)).2.1))) tx oc rl ou tl, q)) (HW_e (by rw [usc_uu _ 1402 _ _]; try rfl) rfl) ?_
            refine RQ.seg 2 (pc' := 16) (L' := [some (.ref 14), some (.retAddr 1), some (.retAddr 9), some (.retAddr 10), some (.ref 24), some (.int (iI (orz t (pb (lk tp a))))), some (.int ((iI i) + (iI 1))), some (.int (iI (pb (lk tp a))))]) (st' := []) (g1 := (HW (usc (usc sc 1401 ((nmR tp 2 (sk tp a + 1)).2.2)) 1402 (if (nmR tp 2 (sk tp a + 1)).1 = -1 then (nmR tp 2 (sk tp a + 1)).2.2 - 1 else (nmR tp 2 (sk tp a + 1)).1)) (usc ar 24 (usz f (pb (lk tp a)) ((nmR tp 2 (sk tp a + 1)).2.1))) tx oc rl ou tl, q)) rfl ?_
            refine RQ.to (L' := [some (.ref 14), some (.retAddr 1), some (.retAddr 9), some (.retAddr 10), some (.ref 24), some (.int (iI (orz t (pb (lk tp a))))), some (.int (iI (i + 1))), some (.int (iI (pb (lk tp a))))]) (st' := []) (by simp only [iI_add, iI_sub, iI_mul, iI_neg]) rfl ?_
            have hor := orz4 (t := t) (i := pb (lk tp a)) (by omega) (by omega) hbt
            have hir := itR_r (tp := tp) (lo := kc9 (pb (lk tp a))) (hi := kc10 (pb (lk tp a))) (a := sk tp a + 1) (by omega)
            rw [its, if_neg (by omega), if_neg hbt] at hk
            have hwv : (itR tp (kc9 (pb (lk tp a))) (kc10 (pb (lk tp a))) (sk tp a + 1)).1 = if (nmR tp 2 (sk tp a + 1)).1 = -1 then (nmR tp 2 (sk tp a + 1)).2.2 - 1 else (nmR tp 2 (sk tp a + 1)).1 := by rcases Decidable.em ((nmR tp 2 (sk tp a + 1)).1 = -1) with hq | hq; (rw [itR_o hq (by omega), if_pos hq]); (rw [itR_n hq, if_neg hq])
            have hnf : ¬ (itR tp (kc9 (pb (lk tp a))) (kc10 (pb (lk tp a))) (sk tp a + 1)).1 = -1 := by rcases Decidable.em ((nmR tp 2 (sk tp a + 1)).1 = -1) with hq | hq; (intro z9; have := hir.2.2.2 z9; rw [itR_o hq (by omega)] at this; dsimp only at this; omega); (rw [itR_n hq]; exact hq)
            rw [if_pos hnf] at hk
            rw [hwv] at hk hnf hir
            generalize (if (nmR tp 2 (sk tp a + 1)).1 = -1 then (nmR tp 2 (sk tp a + 1)).2.2 - 1 else (nmR tp 2 (sk tp a + 1)).1) = wv at hk hnf hir ⊢
            refine RQ.seg 2 (pc' := 19) (L' := [some (.ref 14), some (.retAddr 1), some (.retAddr 9), some (.retAddr 10), some (.ref 24), some (.int (iI (orz t (pb (lk tp a))))), some (.int (iI (i + 1))), some (.int (iI (pb (lk tp a))))]) (st' := [.retAddr 1, .int (iI (i + 1))]) (g1 := (HW (usc (usc sc 1401 ((nmR tp 2 (sk tp a + 1)).2.2)) 1402 wv) (usc ar 24 (usz f (pb (lk tp a)) ((nmR tp 2 (sk tp a + 1)).2.1))) tx oc rl ou tl, q)) rfl ?_
            refine RQ.kalen rfl hK1 ?_
            refine RQ.if2 (a := (i + 1)) (b := 3) rfl rfl rfl rfl (by omega) (by omega) (fun (h8 : 3 < i + 1) => ?_) (fun (h8 : ¬ 3 < i + 1) => ?_)
            · skip
              refine RQ.ret rfl rfl ?_
              exact hk _ _ _ (by omega) (by omega) rfl (fun z => absurd z (by omega))
            · skip
              refine RQ.seg 1 (pc' := 24) (L' := [some (.ref 14), some (.retAddr 1), some (.retAddr 9), some (.retAddr 10), some (.ref 24), some (.int (iI (orz t (pb (lk tp a))))), some (.int (iI (i + 1))), some (.int (iI (pb (lk tp a))))]) (st' := [.ref 14]) (g1 := (HW (usc (usc sc 1401 ((nmR tp 2 (sk tp a + 1)).2.2)) 1402 wv) (usc ar 24 (usz f (pb (lk tp a)) ((nmR tp 2 (sk tp a + 1)).2.1))) tx oc rl ou tl, q)) rfl ?_
              refine RQ.call rfl rfl (CallR.up (d := 1) (x_fine14f (d := 0) (sc := usc (usc sc 1401 ((nmR tp 2 (sk tp a + 1)).2.2)) 1402 wv) (ar := usc ar 24 (usz f (pb (lk tp a)) ((nmR tp 2 (sk tp a + 1)).2.1))) (by show -1 ≤ wv ∧ wv ≤ 200; omega) (by show ¬ wv = -1; omega)) (by omega)) ?_
              refine RQ.seg 1 (pc' := 135) (L' := [some (.ref 14), some (.retAddr 1), some (.retAddr 9), some (.retAddr 10), some (.ref 24), some (.int (iI (orz t (pb (lk tp a))))), some (.int (iI (i + 1))), some (.int (iI (pb (lk tp a))))]) (st' := []) (g1 := (HW (usc (usc sc 1401 ((nmR tp 2 (sk tp a + 1)).2.2)) 1402 wv) (usc ar 24 (usz f (pb (lk tp a)) ((nmR tp 2 (sk tp a + 1)).2.1))) tx oc rl ou tl, q)) rfl ?_
              refine RQ.ret rfl rfl ?_
              exact hk _ _ _ (by omega) (by omega) rfl (fun z => absurd z (by omega))
    · skip
      refine RQ.ret rfl rfl ?_
      rw [its, if_pos (by omega)] at hk
      exact hk _ _ _ (by omega) (by omega) rfl (fun _ => ⟨rfl, hf⟩)
theorem x_itl_l {K : PK} {d : Nat} {sc : Nat → Int} {ar : Nat → Int → Int} {tx oc : Nat} {rl : Nat → Option Nat} {ou : Nat → Int64} {tl : List PO} {q : Nat × Nat} {Q : Option Value → PG → Prop} {tp : List Int} (ht : TpOK tp) (hs : sc 101 = (tp.length : Int)) (hl : LAt (fun v => v) (ar 2) tp) (hK2 : K 2 = some (4, zA kc2)) (hK11 : K 11 = some (4, zA kc11)) (hK12 : K 12 = some (4, zA kc12)) : ∀ (m : Nat) (i t a : Int) (f v : Int → Int) (e7 : Option Value) (hm : i + m = 5) (hi : 0 ≤ i) (htr : 0 ≤ t ∧ t < 16) (hpc : pc4 t = i) (ha : 0 ≤ a ∧ a ≤ (tp.length : Int)) (hf : ∀ j, 0 ≤ j → j < 4 → f j = v j) (hk : ∀ a' w' f', (-1 ≤ w' ∧ w' ≤ 160) → (0 ≤ a' ∧ a' ≤ (tp.length : Int)) → w' = (its pl kc11 kc12 tp m t a v).1 → ((its pl kc11 kc12 tp m t a v).1 = -1 → a' = (its pl kc11 kc12 tp m t a v).2.1 ∧ ∀ j, 0 ≤ j → j < 4 → f' j = (its pl kc11 kc12 tp m t a v).2.2 j) → Q none (HW (usc (usc sc 1401 a') 1402 w') (usc ar 25 f') tx oc rl ou tl, q)), RQ K (d + 3) 3 false none cd27 16 [some (.ref 14), some (.retAddr 2), some (.retAddr 11), some (.retAddr 12), some (.ref 25), some (.int (iI t)), some (.int (iI i)), e7] [] (HW (usc (usc sc 1401 a) 1402 (-1)) (usc ar 25 f) tx oc rl ou tl, q) Q
  | 0, i, t, a, f, v, e7, hm, hi, htr, hpc, ha, hf, hk => by
    have ht1 := ht.1
    refine RQ.seg 2 (pc' := 19) (L' := [some (.ref 14), some (.retAddr 2), some (.retAddr 11), some (.retAddr 12), some (.ref 25), some (.int (iI t)), some (.int (iI i)), e7]) (st' := [.retAddr 2, .int (iI i)]) (g1 := (HW (usc (usc sc 1401 a) 1402 (-1)) (usc ar 25 f) tx oc rl ou tl, q)) rfl ?_
    refine RQ.kalen rfl hK2 ?_
    refine RQ.if2 (a := i) (b := 4) rfl rfl rfl rfl (by omega) (by omega) (fun _ => ?_) (fun (q : ¬ 4 < i) => absurd (show 4 < i from by omega) q)
    refine RQ.ret rfl rfl ?_
    exact hk _ _ _ (by omega) (by omega) rfl (fun _ => ⟨rfl, hf⟩)
  | m + 1, i, t, a, f, v, e7, hm, hi, htr, hpc, ha, hf, hk => by
    have ht1 := ht.1
    have hsk := sk_r (tp := tp) ha.2
    have hlr := tch_r ht (sk tp a)
    have hlk : 0 ≤ lk tp a ∧ lk tp a ≤ 255 := hlr
    have hpr := pl_r (lk tp a)
    have hkr : lk tp a ≠ 0 → 0 ≤ sk tp a ∧ sk tp a < (tp.length : Int) := fun z => tch_pos z
    have hkA := kr11 (pl (lk tp a))
    have hkB := kr12 (pl (lk tp a))
    refine RQ.seg 2 (pc' := 19) (L' := [some (.ref 14), some (.retAddr 2), some (.retAddr 11), some (.retAddr 12), some (.ref 25), some (.int (iI t)), some (.int (iI i)), e7]) (st' := [.retAddr 2, .int (iI i)]) (g1 := (HW (usc (usc sc 1401 a) 1402 (-1)) (usc ar 25 f) tx oc rl ou tl, q)) rfl ?_
    refine RQ.kalen rfl hK2 ?_
    refine RQ.if2 (a := i) (b := 4) rfl rfl rfl rfl (by omega) (by omega) (fun (q : 4 < i) => absurd q (show ¬ 4 < i from by omega)) (fun _ => ?_)
    refine RQ.seg 1 (pc' := 24) (L' := [some (.ref 14), some (.retAddr 2), some (.retAddr 11), some (.retAddr 12), some (.ref 25), some (.int (iI t)), some (.int (iI i)), e7]) (st' := [.ref 14]) (g1 := (HW (usc (usc sc 1401 a) 1402 (-1)) (usc ar 25 f) tx oc rl ou tl, q)) rfl ?_
    refine RQ.call rfl rfl (CallR.up (d := 1) (x_fine14t (d := 0) (sc := usc (usc sc 1401 a) 1402 (-1)) (ar := usc ar 25 f) (by show -1 ≤ (-1 : Int) ∧ (-1 : Int) ≤ 200; omega) rfl) (by omega)) ?_
    refine RQ.seg 3 (pc' := 32) (L' := [some (.ref 14), some (.retAddr 2), some (.retAddr 11), some (.retAddr 12), some (.ref 25), some (.int (iI t)), some (.int (iI i)), e7]) (st' := [.ref 14, .retAddr 2]) (g1 := (HW (usc (usc sc 1401 a) 1402 (-1)) (usc ar 25 f) tx oc rl ou tl, q)) rfl ?_
    refine RQ.call rfl rfl (CallR.up (d := 1) (x_look14 (d := 0) (sc := usc (usc sc 1401 a) 1402 (-1)) (ar := usc ar 25 f) (a := a) ht hs hl rfl ha) (by omega)) ?_
    refine RQ.hp (g1 := (HW (usc (usc sc 1401 (sk tp a)) 1402 (-1)) (usc ar 25 f) tx oc rl ou tl, q)) (HW_e (by rw [usc_sw _ 1402 1401 _ _ rfl, usc_uu _ 1401 _ _]; try rfl) rfl) ?_
    refine RQ.call rfl rfl (CallR.up (d := 1) (x_place2 (d := 0) (c := lk tp a) hK2 (by omega)) (by omega)) ?_
    refine RQ.seg 3 (pc' := 43) (L' := [some (.ref 14), some (.retAddr 2), some (.retAddr 11), some (.retAddr 12), some (.ref 25), some (.int (iI t)), some (.int (iI i)), some (.int (iI (pl (lk tp a))))]) (st' := [.int (iI (-1)), .int (iI (pl (lk tp a)))]) (g1 := (HW (usc (usc sc 1401 (sk tp a)) 1402 (-1)) (usc ar 25 f) tx oc rl ou tl, q)) rfl ?_
    refine RQ.if2 (a := (pl (lk tp a))) (b := (-1)) rfl rfl rfl rfl (by omega) (by omega) (fun (h2 : pl (lk tp a) ≠ (-1)) => ?_) (fun (h2 : ¬ pl (lk tp a) ≠ (-1)) => ?_)
    · skip
      refine RQ.seg 3 (pc' := 52) (L' := [some (.ref 14), some (.retAddr 2), some (.retAddr 11), some (.retAddr 12), some (.ref 25), some (.int (iI t)), some (.int (iI i)), some (.int (iI (pl (lk tp a))))]) (st' := [.int (iI (pl (lk tp a))), .int (iI 1), .int (iI t)]) (g1 := (HW (usc (usc sc 1401 (sk tp a)) 1402 (-1)) (usc ar 25 f) tx oc rl ou tl, q)) rfl ?_
      refine RQ.ishl1 (b := (pl (lk tp a))) rfl rfl rfl (by omega) ?_
      have hp2 := p2_r (b := pl (lk tp a)) (by omega)
      refine RQ.iandv (a := t) (b := pl (lk tp a)) rfl rfl rfl (by omega) (fun hbt => ?_) (fun hbt => ?_)
      · skip
        refine RQ.if1 (a := (2 ^ (pl (lk tp a)).toNat)) rfl rfl rfl (by omega) (fun (q : 2 ^ (pl (lk tp a)).toNat = 0) => absurd q (show ¬ 2 ^ (pl (lk tp a)).toNat = 0 from by omega)) (fun _ => ?_)
        refine RQ.seg 3 (pc' := 62) (L' := [some (.ref 14), some (.retAddr 2), some (.retAddr 11), some (.retAddr 12), some (.ref 25), some (.int (iI t)), some (.int (iI i)), some (.int (iI (pl (lk tp a))))]) (st' := [.int (iI (sk tp a)), .ref 14]) (g1 := (HW (usc (usc sc 1401 (sk tp a)) 1402 (-1)) (usc ar 25 f) tx oc rl ou tl, q)) rfl ?_
        refine RQ.call rfl rfl (CallR.up (d := 1) (x_refuse14 (d := 0) (sc := usc (usc sc 1401 (sk tp a)) 1402 (-1)) (ar := usc ar 25 f) (p := sk tp a) (by show -1 ≤ (-1) ∧ (-1) ≤ 200; omega)) (by omega)) ?_
        refine RQ.hp (g1 := (HW (usc (usc sc 1401 (sk tp a)) 1402 (sk tp a)) (usc ar 25 f) tx oc rl ou tl, q)) (HW_e (by rw [usc_uu _ 1402 _ _]; try rfl) rfl) ?_
        refine RQ.ret rfl rfl ?_
        rw [its, if_neg (by omega), if_pos hbt] at hk
        have hkq := hkr (hpr.2.2 (by omega))
        exact hk _ _ _ (by omega) (by omega) rfl (fun z => absurd z (by omega))
      · skip
        refine RQ.seg 4 (pc' := 71) (L' := [some (.ref 14), some (.retAddr 2), some (.retAddr 11), some (.retAddr 12), some (.ref 25), some (.int (iI t)), some (.int (iI i)), some (.int (iI (pl (lk tp a))))]) (st' := [.int (iI (pl (lk tp a))), .int (iI 1), .int (iI t)]) (g1 := (HW (usc (usc sc 1401 (sk tp a)) 1402 (-1)) (usc ar 25 f) tx oc rl ou tl, q)) rfl ?_
        refine RQ.ishl1 (b := (pl (lk tp a))) rfl rfl rfl (by omega) ?_
        refine RQ.ior (a := t) (b := (pl (lk tp a))) rfl rfl rfl (by omega) (by omega) ?_
        refine RQ.seg 6 (pc' := 82) (L' := [some (.ref 14), some (.retAddr 2), some (.retAddr 11), some (.retAddr 12), some (.ref 25), some (.int (iI (orz t (pl (lk tp a))))), some (.int (iI i)), some (.int (iI (pl (lk tp a))))]) (st' := [.int ((iI (sk tp a)) + (iI 1)), .ref 14]) (g1 := (HW (usc (usc sc 1401 (sk tp a)) 1402 (-1)) (usc ar 25 f) tx oc rl ou tl, q)) rfl ?_
        refine RQ.to (L' := [some (.ref 14), some (.retAddr 2), some (.retAddr 11), some (.retAddr 12), some (.ref 25), some (.int (iI (orz t (pl (lk tp a))))), some (.int (iI i)), some (.int (iI (pl (lk tp a))))]) (st' := [.int (iI (sk tp a + 1)), .ref 14]) rfl (by simp only [iI_add, iI_sub, iI_mul, iI_neg]) ?_
        refine RQ.seg 5 (pc' := 91) (L' := [some (.ref 14), some (.retAddr 2), some (.retAddr 11), some (.retAddr 12), some (.ref 25), some (.int (iI (orz t (pl (lk tp a))))), some (.int (iI i)), some (.int (iI (pl (lk tp a))))]) (st' := [.int (iI 2), .ref 14, .int (iI (pl (lk tp a))), .ref 25]) (g1 := (HW (usc (usc sc 1401 (sk tp a + 1)) 1402 (-1)) (usc ar 25 f) tx oc rl ou tl, q)) rfl ?_
        have hne : lk tp a ≠ 0 := hpr.2.2 (by omega)
        have hkq := hkr hne
        have hnr := nmR_r (tp := tp) (k := 2) (a := sk tp a + 1) (by omega) (by omega)
        have hcall := x_number14 (K := K) (d := d + 1) (tx := tx) (oc := oc) (rl := rl) (ou := ou) (tl := tl) (q := q) (sc := usc (usc sc 1401 (sk tp a + 1)) 1402 (-1)) (ar := usc ar 25 f) (k := 2) (a := sk tp a + 1) (w0 := -1) (by omega) ht hs hl rfl (by omega) rfl (by omega)
        rw [if_pos rfl] at hcall
        refine RQ.call rfl rfl hcall ?_
        refine RQ.hp (g1 := (HW (usc (usc sc 1401 ((nmR tp 2 (sk tp a + 1)).2.2)) 1402 ((nmR tp 2 (sk tp a + 1)).1)) (usc ar 25 f) tx oc rl ou tl, q)) (HW_e (by rw [usc_sw _ 1402 1401 _ _ rfl, usc_uu _ 1401 _ _, usc_uu _ 1402 _ _]; try rfl) rfl) ?_
        refine RQ.iast (z := (pl (lk tp a))) (v := ((nmR tp 2 (sk tp a + 1)).2.1)) (g1 := (HW (usc (usc sc 1401 ((nmR tp 2 (sk tp a + 1)).2.2)) 1402 ((nmR tp 2 (sk tp a + 1)).1)) (usc ar 25 (usz f (pl (lk tp a)) ((nmR tp 2 (sk tp a + 1)).2.1))) tx oc rl ou tl, q)) rfl rfl rfl rfl (by omega) (by decide) (HWa_25 (by funext j; unfold usc; cases hb : Nat.beq j 25 <;> first | rfl | (rw [Nat.eq_of_beq_eq_true hb]; rfl))) ?_
        refine RQ.seg 2 (pc' := 99) (L' := [some (.ref 14), some (.retAddr 2), some (.retAddr 11), some (.retAddr 12), some (.ref 25), some (.int (iI (orz t (pl (lk tp a))))), some (.int (iI i)), some (.int (iI (pl (lk tp a))))]) (st' := [.int (iI (pl (lk tp a))), .ref 25]) (g1 := (HW (usc (usc sc 1401 ((nmR tp 2 (sk tp a + 1)).2.2)) 1402 ((nmR tp 2 (sk tp a + 1)).1)) (usc ar 25 (usz f (pl (lk tp a)) ((nmR tp 2 (sk tp a + 1)).2.1))) tx oc rl ou tl, q)) rfl ?_
        refine RQ.ialdv (z := (pl (lk tp a))) (v := ((nmR tp 2 (sk tp a + 1)).2.1)) rfl rfl rfl (by omega) (by decide) (show (usz f (pl (lk tp a)) ((nmR tp 2 (sk tp a + 1)).2.1)) (pl (lk tp a)) = (nmR tp 2 (sk tp a + 1)).2.1 by rw [usz_s]) ?_
        refine RQ.seg 2 (pc' := 103) (L' := [some (.ref 14), some (.retAddr 2), some (.retAddr 11), some (.retAddr 12), some (.ref 25), some (.int (iI (orz t (pl (lk tp a))))), some (.int (iI i)), some (.int (iI (pl (lk tp a))))]) (st' := [.int (iI (pl (lk tp a))), .retAddr 11, .int (iI ((nmR tp 2 (sk tp a + 1)).2.1))]) (g1 := (HW (usc (usc sc 1401 ((nmR tp 2 (sk tp a + 1)).2.2)) 1402 ((nmR tp 2 (sk tp a + 1)).1)) (usc ar 25 (usz f (pl (lk tp a)) ((nmR tp 2 (sk tp a + 1)).2.1))) tx oc rl ou tl, q)) rfl ?_
        refine RQ.kald (z := (pl (lk tp a))) rfl rfl hK11 (by omega) (by decide) ?_
        refine RQ.if2 (a := ((nmR tp 2 (sk tp a + 1)).2.1)) (b := (kc11 (pl (lk tp a)))) rfl rfl rfl rfl (by omega) (by omega) (fun (h4 : (nmR tp 2 (sk tp a + 1)).2.1 < kc11 (pl (lk tp a))) => ?_) (fun (h4 : ¬ (nmR tp 2 (sk tp a + 1)).2.1 < kc11 (pl (lk tp a))) => ?_)
        · skip
          refine RQ.seg 5 (pc' := 126) (L' := [some (.ref 14), some (.retAddr 2), some (.retAddr 11), some (.retAddr 12), some (.ref 25), some (.int (iI (orz t (pl (lk tp a))))), some (.int (iI i)), some (.int (iI (pl (lk tp a))))]) (st' := [.int ((iI ((nmR tp 2 (sk tp a + 1)).2.2)) - (iI 1)), .ref 14]) (g1 := (HW (usc (usc sc 1401 ((nmR tp 2 (sk tp a + 1)).2.2)) 1402 ((nmR tp 2 (sk tp a + 1)).1)) (usc ar 25 (usz f (pl (lk tp a)) ((nmR tp 2 (sk tp a + 1)).2.1))) tx oc rl ou tl, q)) rfl ?_
          refine RQ.to (L' := [some (.ref 14), some (.retAddr 2), some (.retAddr 11), some (.retAddr 12), some (.ref 25), some (.int (iI (orz t (pl (lk tp a))))), some (.int (iI i)), some (.int (iI (pl (lk tp a))))]) (st' := [.int (iI ((nmR tp 2 (sk tp a + 1)).2.2 - 1)), .ref 14]) rfl (by simp only [iI_add, iI_sub, iI_mul, iI_neg]) ?_
          refine RQ.call rfl rfl (CallR.up (d := 1) (x_refuse14 (d := 0) (sc := usc (usc sc 1401 ((nmR tp 2 (sk tp a + 1)).2.2)) 1402 ((nmR tp 2 (sk tp a + 1)).1)) (ar := usc ar 25 (usz f (pl (lk tp a)) ((nmR tp 2 (sk tp a + 1)).2.1))) (p := (nmR tp 2 (sk tp a + 1)).2.2 - 1) (by show -1 ≤ (nmR tp 2 (sk tp a + 1)).1 ∧ (nmR tp 2 (sk tp a + 1)).1 ≤ 200; omega)) (by omega)) ?_
          refine RQ.hp (g1 := (HW (usc (usc sc 1401 ((nmR tp 2 (sk tp a + 1)).2.2)) 1402 (if (nmR tp 2 (sk tp a + 1)).1 = -1 then (nmR tp 2 (sk tp a + 1)).2.2 - 1 else (nmR tp 2 (sk tp a + 1)).1)) (usc ar 25 (usz f (pl (lk tp a)) ((nmR tp 2 (sk tp a + 1)).2.1))) tx oc rl ou tl, q)) (HW_e (by rw [usc_uu _ 1402 _ _]; try rfl) rfl) ?_
          refine RQ.seg 2 (pc' := 16) (L' := [some (.ref 14), some (.retAddr 2), some (.retAddr 11), some (.retAddr 12), some (.ref 25), some (.int (iI (orz t (pl (lk tp a))))), some (.int ((iI i) + (iI 1))), some (.int (iI (pl (lk tp a))))]) (st' := []) (g1 := (HW (usc (usc sc 1401 ((nmR tp 2 (sk tp a + 1)).2.2)) 1402 (if (nmR tp 2 (sk tp a + 1)).1 = -1 then (nmR tp 2 (sk tp a + 1)).2.2 - 1 else (nmR tp 2 (sk tp a + 1)).1)) (usc ar 25 (usz f (pl (lk tp a)) ((nmR tp 2 (sk tp a + 1)).2.1))) tx oc rl ou tl, q)) rfl ?_
          refine RQ.to (L' := [some (.ref 14), some (.retAddr 2), some (.retAddr 11), some (.retAddr 12), some (.ref 25), some (.int (iI (orz t (pl (lk tp a))))), some (.int (iI (i + 1))), some (.int (iI (pl (lk tp a))))]) (st' := []) (by simp only [iI_add, iI_sub, iI_mul, iI_neg]) rfl ?_
          have hor := orz4 (t := t) (i := pl (lk tp a)) (by omega) (by omega) hbt
          have hir := itR_r (tp := tp) (lo := kc11 (pl (lk tp a))) (hi := kc12 (pl (lk tp a))) (a := sk tp a + 1) (by omega)
          rw [its, if_neg (by omega), if_neg hbt] at hk
          have hwv : (itR tp (kc11 (pl (lk tp a))) (kc12 (pl (lk tp a))) (sk tp a + 1)).1 = if (nmR tp 2 (sk tp a + 1)).1 = -1 then (nmR tp 2 (sk tp a + 1)).2.2 - 1 else (nmR tp 2 (sk tp a + 1)).1 := by rcases Decidable.em ((nmR tp 2 (sk tp a + 1)).1 = -1) with hq | hq; (rw [itR_o hq (by omega), if_pos hq]); (rw [itR_n hq, if_neg hq])
          have hnf : ¬ (itR tp (kc11 (pl (lk tp a))) (kc12 (pl (lk tp a))) (sk tp a + 1)).1 = -1 := by rcases Decidable.em ((nmR tp 2 (sk tp a + 1)).1 = -1) with hq | hq; (intro z9; have := hir.2.2.2 z9; rw [itR_o hq (by omega)] at this; dsimp only at this; omega); (rw [itR_n hq]; exact hq)
          rw [if_pos hnf] at hk
          rw [hwv] at hk hnf hir
          generalize (if (nmR tp 2 (sk tp a + 1)).1 = -1 then (nmR tp 2 (sk tp a + 1)).2.2 - 1 else (nmR tp 2 (sk tp a + 1)).1) = wv at hk hnf hir ⊢
          refine RQ.seg 2 (pc' := 19) (L' := [some (.ref 14), some (.retAddr 2), some (.retAddr 11), some (.retAddr 12), some (.ref 25), some (.int (iI (orz t (pl (lk tp a))))), some (.int (iI (i + 1))), some (.int (iI (pl (lk tp a))))]) (st' := [.retAddr 2, .int (iI (i + 1))]) (g1 := (HW (usc (usc sc 1401 ((nmR tp 2 (sk tp a + 1)).2.2)) 1402 wv) (usc ar 25 (usz f (pl (lk tp a)) ((nmR tp 2 (sk tp a + 1)).2.1))) tx oc rl ou tl, q)) rfl ?_
          refine RQ.kalen rfl hK2 ?_
          refine RQ.if2 (a := (i + 1)) (b := 4) rfl rfl rfl rfl (by omega) (by omega) (fun (h5 : 4 < i + 1) => ?_) (fun (h5 : ¬ 4 < i + 1) => ?_)
          · skip
            refine RQ.ret rfl rfl ?_
            exact hk _ _ _ (by omega) (by omega) rfl (fun z => absurd z (by omega))
          · skip
            refine RQ.seg 1 (pc' := 24) (L' := [some (.ref 14), some (.retAddr 2), some (.retAddr 11), some (.retAddr 12), some (.ref 25), some (.int (iI (orz t (pl (lk tp a))))), some (.int (iI (i + 1))), some (.int (iI (pl (lk tp a))))]) (st' := [.ref 14]) (g1 := (HW (usc (usc sc 1401 ((nmR tp 2 (sk tp a + 1)).2.2)) 1402 wv) (usc ar 25 (usz f (pl (lk tp a)) ((nmR tp 2 (sk tp a + 1)).2.1))) tx oc rl ou tl, q)) rfl ?_
            refine RQ.call rfl rfl (CallR.up (d := 1) (x_fine14f (d := 0) (sc := usc (usc sc 1401 ((nmR tp 2 (sk tp a + 1)).2.2)) 1402 wv) (ar := usc ar 25 (usz f (pl (lk tp a)) ((nmR tp 2 (sk tp a + 1)).2.1))) (by show -1 ≤ wv ∧ wv ≤ 200; omega) (by show ¬ wv = -1; omega)) (by omega)) ?_
            refine RQ.seg 1 (pc' := 135) (L' := [some (.ref 14), some (.retAddr 2), some (.retAddr 11), some (.retAddr 12), some (.ref 25), some (.int (iI (orz t (pl (lk tp a))))), some (.int (iI (i + 1))), some (.int (iI (pl (lk tp a))))]) (st' := []) (g1 := (HW (usc (usc sc 1401 ((nmR tp 2 (sk tp a + 1)).2.2)) 1402 wv) (usc ar 25 (usz f (pl (lk tp a)) ((nmR tp 2 (sk tp a + 1)).2.1))) tx oc rl ou tl, q)) rfl ?_
            refine RQ.ret rfl rfl ?_
            exact hk _ _ _ (by omega) (by omega) rfl (fun z => absurd z (by omega))
        · skip
          refine RQ.seg 2 (pc' := 111) (L' := [some (.ref 14), some (.retAddr 2), some (.retAddr 11), some (.retAddr 12), some (.ref 25), some (.int (iI (orz t (pl (lk tp a))))), some (.int (iI i)), some (.int (iI (pl (lk tp a))))]) (st' := [.int (iI (pl (lk tp a))), .ref 25]) (g1 := (HW (usc (usc sc 1401 ((nmR tp 2 (sk tp a + 1)).2.2)) 1402 ((nmR tp 2 (sk tp a + 1)).1)) (usc ar 25 (usz f (pl (lk tp a)) ((nmR tp 2 (sk tp a + 1)).2.1))) tx oc rl ou tl, q)) rfl ?_
          refine RQ.ialdv (z := (pl (lk tp a))) (v := ((nmR tp 2 (sk tp a + 1)).2.1)) rfl rfl rfl (by omega) (by decide) (show (usz f (pl (lk tp a)) ((nmR tp 2 (sk tp a + 1)).2.1)) (pl (lk tp a)) = (nmR tp 2 (sk tp a + 1)).2.1 by rw [usz_s]) ?_
          refine RQ.seg 2 (pc' := 115) (L' := [some (.ref 14), some (.retAddr 2), some (.retAddr 11), some (.retAddr 12), some (.ref 25), some (.int (iI (orz t (pl (lk tp a))))), some (.int (iI i)), some (.int (iI (pl (lk tp a))))]) (st' := [.int (iI (pl (lk tp a))), .retAddr 12, .int (iI ((nmR tp 2 (sk tp a + 1)).2.1))]) (g1 := (HW (usc (usc sc 1401 ((nmR tp 2 (sk tp a + 1)).2.2)) 1402 ((nmR tp 2 (sk tp a + 1)).1)) (usc ar 25 (usz f (pl (lk tp a)) ((nmR tp 2 (sk tp a + 1)).2.1))) tx oc rl ou tl, q)) rfl ?_
          refine RQ.kald (z := (pl (lk tp a))) rfl rfl hK12 (by omega) (by decide) ?_
          refine RQ.if2 (a := ((nmR tp 2 (sk tp a + 1)).2.1)) (b := (kc12 (pl (lk tp a)))) rfl rfl rfl rfl (by omega) (by omega) (fun (h6 : (nmR tp 2 (sk tp a + 1)).2.1 ≤ kc12 (pl (lk tp a))) => ?_) (fun (h6 : ¬ (nmR tp 2 (sk tp a + 1)).2.1 ≤ kc12 (pl (lk tp a))) => ?_)
          · skip
            refine RQ.seg 2 (pc' := 16) (L' := [some (.ref 14), some (.retAddr 2), some (.retAddr 11), some (.retAddr 12), some (.ref 25), some (.int (iI (orz t (pl (lk tp a))))), some (.int ((iI i) + (iI 1))), some (.int (iI (pl (lk tp a))))]) (st' := []) (g1 := (HW (usc (usc sc 1401 ((nmR tp 2 (sk tp a + 1)).2.2)) 1402 ((nmR tp 2 (sk tp a + 1)).1)) (usc ar 25 (usz f (pl (lk tp a)) ((nmR tp 2 (sk tp a + 1)).2.1))) tx oc rl ou tl, q)) rfl ?_
            refine RQ.to (L' := [some (.ref 14), some (.retAddr 2), some (.retAddr 11), some (.retAddr 12), some (.ref 25), some (.int (iI (orz t (pl (lk tp a))))), some (.int (iI (i + 1))), some (.int (iI (pl (lk tp a))))]) (st' := []) (by simp only [iI_add, iI_sub, iI_mul, iI_neg]) rfl ?_
            have hor := orz4 (t := t) (i := pl (lk tp a)) (by omega) (by omega) hbt
            have hir := itR_r (tp := tp) (lo := kc11 (pl (lk tp a))) (hi := kc12 (pl (lk tp a))) (a := sk tp a + 1) (by omega)
            rw [its, if_neg (by omega), if_neg hbt] at hk
            rcases Decidable.em ((nmR tp 2 (sk tp a + 1)).1 = -1) with hq | hq
            · rw [itR_g hq (by omega), if_neg (by omega)] at hk
              have hx9 := hnr.2.1
              rw [hq]
              refine x_itl_l ht hs hl hK2 hK11 hK12 m (i + 1) (orz t (pl (lk tp a))) (nmR tp 2 (sk tp a + 1)).2.2 _ (usz v (pl (lk tp a)) (nmR tp 2 (sk tp a + 1)).2.1) _ (by omega) (by omega) (by omega) (by omega) (by omega) (fun j j0 j1 => ?_) hk
              by_cases ej : j = pl (lk tp a)
              · rw [ej, usz_s, usz_s]
              · rw [usz_n ej, usz_n ej]; exact hf j j0 j1
            · rw [itR_n hq, if_pos hq] at hk
              refine RQ.seg 2 (pc' := 19) (L' := [some (.ref 14), some (.retAddr 2), some (.retAddr 11), some (.retAddr 12), some (.ref 25), some (.int (iI (orz t (pl (lk tp a))))), some (.int (iI (i + 1))), some (.int (iI (pl (lk tp a))))]) (st' := [.retAddr 2, .int (iI (i + 1))]) (g1 := (HW (usc (usc sc 1401 ((nmR tp 2 (sk tp a + 1)).2.2)) 1402 ((nmR tp 2 (sk tp a + 1)).1)) (usc ar 25 (usz f (pl (lk tp a)) ((nmR tp 2 (sk tp a + 1)).2.1))) tx oc rl ou tl, q)) rfl ?_
              refine RQ.kalen rfl hK2 ?_
              refine RQ.if2 (a := (i + 1)) (b := 4) rfl rfl rfl rfl (by omega) (by omega) (fun (h7 : 4 < i + 1) => ?_) (fun (h7 : ¬ 4 < i + 1) => ?_)
              · skip
                refine RQ.ret rfl rfl ?_
                exact hk _ _ _ (by omega) (by omega) rfl (fun z => absurd z (by omega))
              · skip
                refine RQ.seg 1 (pc' := 24) (L' := [some (.ref 14), some (.retAddr 2), some (.retAddr 11), some (.retAddr 12), some (.ref 25), some (.int (iI (orz t (pl (lk tp a))))), some (.int (iI (i + 1))), some (.int (iI (pl (lk tp a))))]) (st' := [.ref 14]) (g1 := (HW (usc (usc sc 1401 ((nmR tp 2 (sk tp a + 1)).2.2)) 1402 ((nmR tp 2 (sk tp a + 1)).1)) (usc ar 25 (usz f (pl (lk tp a)) ((nmR tp 2 (sk tp a + 1)).2.1))) tx oc rl ou tl, q)) rfl ?_
                refine RQ.call rfl rfl (CallR.up (d := 1) (x_fine14f (d := 0) (sc := usc (usc sc 1401 ((nmR tp 2 (sk tp a + 1)).2.2)) 1402 ((nmR tp 2 (sk tp a + 1)).1)) (ar := usc ar 25 (usz f (pl (lk tp a)) ((nmR tp 2 (sk tp a + 1)).2.1))) (by show -1 ≤ (nmR tp 2 (sk tp a + 1)).1 ∧ (nmR tp 2 (sk tp a + 1)).1 ≤ 200; omega) (by show ¬ (nmR tp 2 (sk tp a + 1)).1 = -1; omega)) (by omega)) ?_
                refine RQ.seg 1 (pc' := 135) (L' := [some (.ref 14), some (.retAddr 2), some (.retAddr 11), some (.retAddr 12), some (.ref 25), some (.int (iI (orz t (pl (lk tp a))))), some (.int (iI (i + 1))), some (.int (iI (pl (lk tp a))))]) (st' := []) (g1 := (HW (usc (usc sc 1401 ((nmR tp 2 (sk tp a + 1)).2.2)) 1402 ((nmR tp 2 (sk tp a + 1)).1)) (usc ar 25 (usz f (pl (lk tp a)) ((nmR tp 2 (sk tp a + 1)).2.1))) tx oc rl ou tl, q)) rfl ?_
                refine RQ.ret rfl rfl ?_
                exact hk _ _ _ (by omega) (by omega) rfl (fun z => absurd z (by omega))
          · skip
            refine RQ.seg 5 (pc' := 126) (L' := [some (.ref 14), some (.retAddr 2), some (.retAddr 11), some (.retAddr 12), some (.ref 25), some (.int (iI (orz t (pl (lk tp a))))), some (.int (iI i)), some (.int (iI (pl (lk tp a))))]) (st' := [.int ((iI ((nmR tp 2 (sk tp a + 1)).2.2)) - (iI 1)), .ref 14]) (g1 := (HW (usc (usc sc 1401 ((nmR tp 2 (sk tp a + 1)).2.2)) 1402 ((nmR tp 2 (sk tp a + 1)).1)) (usc ar 25 (usz f (pl (lk tp a)) ((nmR tp 2 (sk tp a + 1)).2.1))) tx oc rl ou tl, q)) rfl ?_
            refine RQ.to (L' := [some (.ref 14), some (.retAddr 2), some (.retAddr 11), some (.retAddr 12), some (.ref 25), some (.int (iI (orz t (pl (lk tp a))))), some (.int (iI i)), some (.int (iI (pl (lk tp a))))]) (st' := [.int (iI ((nmR tp 2 (sk tp a + 1)).2.2 - 1)), .ref 14]) rfl (by simp only [iI_add, iI_sub, iI_mul, iI_neg]) ?_
            refine RQ.call rfl rfl (CallR.up (d := 1) (x_refuse14 (d := 0) (sc := usc (usc sc 1401 ((nmR tp 2 (sk tp a + 1)).2.2)) 1402 ((nmR tp 2 (sk tp a + 1)).1)) (ar := usc ar 25 (usz f (pl (lk tp a)) ((nmR tp 2 (sk tp a + 1)).2.1))) (p := (nmR tp 2 (sk tp a + 1)).2.2 - 1) (by show -1 ≤ (nmR tp 2 (sk tp a + 1)).1 ∧ (nmR tp 2 (sk tp a + 1)).1 ≤ 200; omega)) (by omega)) ?_
            refine RQ.hp (g1 := (HW (usc (usc sc 1401 ((nmR tp 2 (sk tp a + 1)).2.2)) 1402 (if (nmR tp 2 (sk tp a + 1)).1 = -1 then (nmR tp 2 (sk tp a + 1)).2.2 - 1 else (nmR tp 2 (sk tp a + 1)).1)) (usc ar 25 (usz f (pl (lk tp a)) ((nmR tp 2 (sk tp a + 1)).2.1))) tx oc rl ou tl, q)) (HW_e (by rw [usc_uu _ 1402 _ _]; try rfl) rfl) ?_
            refine RQ.seg 2 (pc' := 16) (L' := [some (.ref 14), some (.retAddr 2), some (.retAddr 11), some (.retAddr 12), some (.ref 25), some (.int (iI (orz t (pl (lk tp a))))), some (.int ((iI i) + (iI 1))), some (.int (iI (pl (lk tp a))))]) (st' := []) (g1 := (HW (usc (usc sc 1401 ((nmR tp 2 (sk tp a + 1)).2.2)) 1402 (if (nmR tp 2 (sk tp a + 1)).1 = -1 then (nmR tp 2 (sk tp a + 1)).2.2 - 1 else (nmR tp 2 (sk tp a + 1)).1)) (usc ar 25 (usz f (pl (lk tp a)) ((nmR tp 2 (sk tp a + 1)).2.1))) tx oc rl ou tl, q)) rfl ?_
            refine RQ.to (L' := [some (.ref 14), some (.retAddr 2), some (.retAddr 11), some (.retAddr 12), some (.ref 25), some (.int (iI (orz t (pl (lk tp a))))), some (.int (iI (i + 1))), some (.int (iI (pl (lk tp a))))]) (st' := []) (by simp only [iI_add, iI_sub, iI_mul, iI_neg]) rfl ?_
            have hor := orz4 (t := t) (i := pl (lk tp a)) (by omega) (by omega) hbt
            have hir := itR_r (tp := tp) (lo := kc11 (pl (lk tp a))) (hi := kc12 (pl (lk tp a))) (a := sk tp a + 1) (by omega)
            rw [its, if_neg (by omega), if_neg hbt] at hk
            have hwv : (itR tp (kc11 (pl (lk tp a))) (kc12 (pl (lk tp a))) (sk tp a + 1)).1 = if (nmR tp 2 (sk tp a + 1)).1 = -1 then (nmR tp 2 (sk tp a + 1)).2.2 - 1 else (nmR tp 2 (sk tp a + 1)).1 := by rcases Decidable.em ((nmR tp 2 (sk tp a + 1)).1 = -1) with hq | hq; (rw [itR_o hq (by omega), if_pos hq]); (rw [itR_n hq, if_neg hq])
            have hnf : ¬ (itR tp (kc11 (pl (lk tp a))) (kc12 (pl (lk tp a))) (sk tp a + 1)).1 = -1 := by rcases Decidable.em ((nmR tp 2 (sk tp a + 1)).1 = -1) with hq | hq; (intro z9; have := hir.2.2.2 z9; rw [itR_o hq (by omega)] at this; dsimp only at this; omega); (rw [itR_n hq]; exact hq)
            rw [if_pos hnf] at hk
            rw [hwv] at hk hnf hir
            generalize (if (nmR tp 2 (sk tp a + 1)).1 = -1 then (nmR tp 2 (sk tp a + 1)).2.2 - 1 else (nmR tp 2 (sk tp a + 1)).1) = wv at hk hnf hir ⊢
            refine RQ.seg 2 (pc' := 19) (L' := [some (.ref 14), some (.retAddr 2), some (.retAddr 11), some (.retAddr 12), some (.ref 25), some (.int (iI (orz t (pl (lk tp a))))), some (.int (iI (i + 1))), some (.int (iI (pl (lk tp a))))]) (st' := [.retAddr 2, .int (iI (i + 1))]) (g1 := (HW (usc (usc sc 1401 ((nmR tp 2 (sk tp a + 1)).2.2)) 1402 wv) (usc ar 25 (usz f (pl (lk tp a)) ((nmR tp 2 (sk tp a + 1)).2.1))) tx oc rl ou tl, q)) rfl ?_
            refine RQ.kalen rfl hK2 ?_
            refine RQ.if2 (a := (i + 1)) (b := 4) rfl rfl rfl rfl (by omega) (by omega) (fun (h8 : 4 < i + 1) => ?_) (fun (h8 : ¬ 4 < i + 1) => ?_)
            · skip
              refine RQ.ret rfl rfl ?_
              exact hk _ _ _ (by omega) (by omega) rfl (fun z => absurd z (by omega))
            · skip
              refine RQ.seg 1 (pc' := 24) (L' := [some (.ref 14), some (.retAddr 2), some (.retAddr 11), some (.retAddr 12), some (.ref 25), some (.int (iI (orz t (pl (lk tp a))))), some (.int (iI (i + 1))), some (.int (iI (pl (lk tp a))))]) (st' := [.ref 14]) (g1 := (HW (usc (usc sc 1401 ((nmR tp 2 (sk tp a + 1)).2.2)) 1402 wv) (usc ar 25 (usz f (pl (lk tp a)) ((nmR tp 2 (sk tp a + 1)).2.1))) tx oc rl ou tl, q)) rfl ?_
              refine RQ.call rfl rfl (CallR.up (d := 1) (x_fine14f (d := 0) (sc := usc (usc sc 1401 ((nmR tp 2 (sk tp a + 1)).2.2)) 1402 wv) (ar := usc ar 25 (usz f (pl (lk tp a)) ((nmR tp 2 (sk tp a + 1)).2.1))) (by show -1 ≤ wv ∧ wv ≤ 200; omega) (by show ¬ wv = -1; omega)) (by omega)) ?_
              refine RQ.seg 1 (pc' := 135) (L' := [some (.ref 14), some (.retAddr 2), some (.retAddr 11), some (.retAddr 12), some (.ref 25), some (.int (iI (orz t (pl (lk tp a))))), some (.int (iI (i + 1))), some (.int (iI (pl (lk tp a))))]) (st' := []) (g1 := (HW (usc (usc sc 1401 ((nmR tp 2 (sk tp a + 1)).2.2)) 1402 wv) (usc ar 25 (usz f (pl (lk tp a)) ((nmR tp 2 (sk tp a + 1)).2.1))) tx oc rl ou tl, q)) rfl ?_
              refine RQ.ret rfl rfl ?_
              exact hk _ _ _ (by omega) (by omega) rfl (fun z => absurd z (by omega))
    · skip
      refine RQ.ret rfl rfl ?_
      rw [its, if_pos (by omega)] at hk
      exact hk _ _ _ (by omega) (by omega) rfl (fun _ => ⟨rfl, hf⟩)
