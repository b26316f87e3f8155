/-! the class takes a rule; fault and text of the class, by wip/tools -/
/-! the class takes a rule; fault and text of the class -/
section RQNew2
variable {K : PK} {d own : Nat} {ini : Bool} {rt : Option FieldType} {cd : PC} {pc : Nat} {L : PL} {st : List Value} {g : PG} {Q : Option Value → PG → Prop}
theorem RQ.newo {len i ci r : Nat} {g1 : PG} (hf : pfetch cd pc = some (.new i, len)) (hp : pnew own i = some ci) (hr : g.1.length = r) (hg : (g.1 ++ [.inr (ci, dfl ci)], g.2.1 + 1, g.2.2 + (dfl ci).length) = g1) (k : RQ K d own ini rt cd (pc + 3) L (.ref r :: st) g1 Q) : RQ K d own ini rt cd pc L st g Q := by
  subst hr hg
  refine RQ.step hf (S := (pc + 3, L, .ref g.1.length :: st, (g.1 ++ [.inr (ci, dfl ci)], g.2.1 + 1, g.2.2 + (dfl ci).length))) ?_ k
  show ppnew (pnew own i) (pc + 3) L st g = _
  rw [hp]
  rfl
theorem RQ.aast {len a v n : Nat} {z : Int} {x : Int32} {f : Nat → Option Nat} {fs : List Value} {g1 : PG} (hf : pfetch cd pc = some (.aastore, len)) (hx : x = iI z) (ha : g.1[a]? = some (.inl (3, n, .inr (.inr (.inr (.inr f)))))) (hv : g.1[v]? = some (.inr (0, fs))) (hi : 0 ≤ z ∧ z < n) (hn : n < 2147483648) (hg : (g.1.set a (.inl (3, n, .inr (.inr (.inr (.inr (va_up f z.toNat (some v))))))), g.2) = g1) (k : RQ K d own ini rt cd (pc + 1) L st g1 Q) : RQ K d own ini rt cd pc L (.ref v :: .int x :: .ref a :: st) g Q := by
  subst hx hg
  refine RQ.step hf (S := (pc + 1, L, st, (g.1.set a (.inl (3, n, .inr (.inr (.inr (.inr (va_up f z.toNat (some v))))))), g.2))) ?_ k
  show paast (pc + 1) L g (.ref v :: .int (iI z) :: .ref a :: st) = _
  simp only [paast, ha, hv, pin_z hi hn, iI_clamp (show 0 ≤ z ∧ z < 2147483648 by omega), cond_true]
theorem RQ.aaldr {len a v n : Nat} {z : Int} {x : Int32} {f : Nat → Option Nat} (hf : pfetch cd pc = some (.aaload, len)) (hx : x = iI z) (ha : g.1[a]? = some (.inl (3, n, .inr (.inr (.inr (.inr f)))))) (hi : 0 ≤ z ∧ z < n) (hn : n < 2147483648) (hv : f z.toNat = some v) (k : RQ K d own ini rt cd (pc + 1) L (.ref v :: st) g Q) : RQ K d own ini rt cd pc L (.int x :: .ref a :: st) g Q := by
  subst hx
  refine RQ.step hf (S := (pc + 1, L, .ref v :: st, g)) ?_ k
  show paald (pc + 1) L g (.int (iI z) :: .ref a :: st) = _
  simp only [paald, ha, pin_z hi hn, iI_clamp (show 0 ≤ z ∧ z < 2147483648 by omega), hv]
  rfl
end RQNew2
section Tl
variable {sc : Nat → Int} {ar : Nat → Int → Int} {tx oc : Nat} {rl : Nat → Option Nat} {ou : Nat → Int64} {tl l r : List PO} {x y z : PO}
theorem tl_g0 : (HW sc ar tx oc rl ou (tl ++ (x :: r)))[tl.length + 118]? = some x := by
  rw [HWt_r, List.getElem?_append_right (Nat.le_refl _), Nat.sub_self]
  rfl
theorem tl_g2 : (HW sc ar tx oc rl ou (tl ++ (x :: y :: z :: r)))[tl.length + 120]? = some z := by
  rw [show tl.length + 120 = (tl.length + 2) + 118 from rfl, HWt_r, List.getElem?_append_right (by omega), show tl.length + 2 - tl.length = 2 by omega]
  rfl
theorem tl_s0 : (HW sc ar tx oc rl ou (tl ++ (x :: r))).set (tl.length + 118) y = HW sc ar tx oc rl ou (tl ++ (y :: r)) := by
  rw [HWt_s, List.set_append_right _ _ (Nat.le_refl _), Nat.sub_self]
  rfl
theorem tl_s2 {w : PO} : (HW sc ar tx oc rl ou (tl ++ (x :: y :: z :: r))).set (tl.length + 120) w = HW sc ar tx oc rl ou (tl ++ (x :: y :: w :: r)) := by
  rw [show tl.length + 120 = (tl.length + 2) + 118 from rfl, HWt_s, List.set_append_right _ _ (by omega), show tl.length + 2 - tl.length = 2 by omega]
  rfl
theorem tl_ap : HW sc ar tx oc rl ou (tl ++ l) ++ [x] = HW sc ar tx oc rl ou (tl ++ (l ++ [x])) := by
  show HW sc ar tx oc rl ou ((tl ++ l) ++ [x]) = _
  rw [List.append_assoc]
theorem tl_len : (HW sc ar tx oc rl ou (tl ++ l)).length = tl.length + (l.length + 118) := by
  show (tl ++ l).length + 118 = _
  rw [List.length_append]
  omega
end Tl
def sText1 (rc : Int) (tp : List Int) : Int := if rc < 4 ∧ rlF tp = -1 then rc else -1
def rcC (j : Nat) (n top : Int) : PO := .inr (0, [.ref (j + 120), .int (iI n), .ref (j + 119), .int (iI top)])
theorem cp_at {f : Int → Int} {cs : List Int} (h : LAt (fun v => v) f cs) : LAt (fun v => v) (cpz f (fun _ => 0) (cs.length : Int)) cs := fun k k0 k1 => (show (if k < (cs.length : Int) then f k else 0) = _ from if_pos k1).trans (h k k0 k1)
theorem x_cinit {K : PK} {d : Nat} {sc : Nat → Int} {ar : Nat → Int → Int} {tx oc : Nat} {rl : Nat → Option Nat} {ou : Nat → Int64} {tl : List PO} {q : Nat × Nat} {n : Nat} (hn : n ≤ 161) : CallR K (d + 2) 0 [.ref (tl.length + 118), .int (iI (n : Int))] (HW sc ar tx oc rl ou (tl ++ [.inr (0, [.null, .int (iI 0), .null, .int (iI 0)])]), (q.1, q.2)) none (HW sc ar tx oc rl ou (tl ++ [.inr (0, [.ref (tl.length + 120), .int (iI 0), .ref (tl.length + 119), .int (iI 0)]), .inl (0, 64, .inl (zA fun _ => 0)), .inl (0, n, .inl (zA fun _ => 0))]), (q.1 + 1 + 1, q.2 + 64 + n)) := by
  apply CQ.x
  refine CQ.of (own := 0) (n := 2) (ini := true) (rt := none) (cd := cd0) (by decide +kernel) rfl (by decide +kernel) rfl (Nat.le_of_ble_eq_true rfl) ?_
  refine RQ.seg 4 (pc' := 7) (L' := [some (.ref (tl.length + 118)), some (.int (iI (n : Int)))]) (st' := [.int (iI 64), .ref (tl.length + 118)]) (g1 := (HW sc ar tx oc rl ou (tl ++ [.inr (0, [.null, .int (iI 0), .null, .int (iI 0)])]), (q.1, q.2))) rfl ?_
  refine RQ.newai (n := 64) (r := tl.length + 119) (g1 := (HW sc ar tx oc rl ou (tl ++ [.inr (0, [.null, .int (iI 0), .null, .int (iI 0)]), .inl (0, 64, .inl (zA fun _ => 0))]), (q.1 + 1, q.2 + 64))) rfl (by omega) tl_len (by rw [tl_ap]; rfl) ?_
  refine RQ.putfG (g1 := (HW sc ar tx oc rl ou (tl ++ [.inr (0, [.null, .int (iI 0), .ref (tl.length + 119), .int (iI 0)]), .inl (0, 64, .inl (zA fun _ => 0))]), (q.1 + 1, q.2 + 64))) rfl rfl tl_g0 rfl rfl rfl rfl (congrArg (·, _) tl_s0) ?_
  refine RQ.seg 3 (pc' := 15) (L' := [some (.ref (tl.length + 118)), some (.int (iI (n : Int)))]) (st' := [.int (iI 0), .int (iI (n : Int)), .ref (tl.length + 118)]) (g1 := (HW sc ar tx oc rl ou (tl ++ [.inr (0, [.null, .int (iI 0), .ref (tl.length + 119), .int (iI 0)]), .inl (0, 64, .inl (zA fun _ => 0))]), (q.1 + 1, q.2 + 64))) rfl ?_
  refine RQ.call rfl rfl (CallR.up (d := 1) (x_max (d := 0) (a := (n : Int)) (b := 0) (by omega) (by omega)) (by omega)) ?_
  rw [show max (n : Int) 0 = (n : Int) by omega]
  refine RQ.newai (n := n) (r := tl.length + 120) (g1 := (HW sc ar tx oc rl ou (tl ++ [.inr (0, [.null, .int (iI 0), .ref (tl.length + 119), .int (iI 0)]), .inl (0, 64, .inl (zA fun _ => 0)), .inl (0, n, .inl (zA fun _ => 0))]), (q.1 + 1 + 1, q.2 + 64 + n))) rfl (by omega) tl_len (by rw [tl_ap]; rfl) ?_
  refine RQ.putfG (g1 := (HW sc ar tx oc rl ou (tl ++ [.inr (0, [.ref (tl.length + 120), .int (iI 0), .ref (tl.length + 119), .int (iI 0)]), .inl (0, 64, .inl (zA fun _ => 0)), .inl (0, n, .inl (zA fun _ => 0))]), (q.1 + 1 + 1, q.2 + 64 + n))) rfl rfl tl_g0 rfl rfl rfl rfl (congrArg (·, _) tl_s0) ?_
  refine RQ.ret rfl rfl ?_
  exact ⟨rfl, rfl⟩
theorem x_copy {K : PK} {d : Nat} {sc : Nat → Int} {ar : Nat → Int → Int} {tx oc : Nat} {rl : Nat → Option Nat} {ou : Nat → Int64} {tl : List PO} {q : Nat × Nat} {cs : List Int} (hz : sc 2701 = (cs.length : Int)) (hn : cs.length ≤ 161) : CallR K (d + 3) 2 [.ref 27] (HW sc ar tx oc rl ou tl, q) (some (.ref (tl.length + 118))) (HW sc ar tx oc rl ou (tl ++ [.inr (0, [.ref (tl.length + 120), .int (iI (cs.length : Int)), .ref (tl.length + 119), .int (iI 0)]), .inl (0, 64, .inl (zA fun _ => 0)), .inl (0, cs.length, .inl (zA (cpz (ar 29) (fun _ => 0) (cs.length : Int))))]), (q.1 + 1 + 1 + 1, q.2 + 4 + 64 + cs.length)) := by
  apply CQ.x
  refine CQ.of (own := 0) (n := 2) (ini := false) (rt := (some (.object "ThreeLadders$Code"))) (cd := cd2) (by decide +kernel) rfl (by decide +kernel) rfl (Nat.le_of_ble_eq_true rfl) ?_
  refine RQ.newo (ci := 0) (r := tl.length + 118) (g1 := (HW sc ar tx oc rl ou (tl ++ [.inr (0, [.null, .int (iI 0), .null, .int (iI 0)])]), (q.1 + 1, q.2 + 4))) rfl rfl rfl rfl ?_
  refine RQ.seg 3 (pc' := 8) (L' := [some (.ref 27), none]) (st' := [.int (iI (sc 2701)), .ref (tl.length + 118), .ref (tl.length + 118)]) (g1 := (HW sc ar tx oc rl ou (tl ++ [.inr (0, [.null, .int (iI 0), .null, .int (iI 0)])]), (q.1 + 1, q.2 + 4))) rfl ?_
  refine RQ.to (L' := [some (.ref 27), none]) (st' := [.int (iI (cs.length : Int)), .ref (tl.length + 118), .ref (tl.length + 118)]) rfl (by rw [show sc 2701 = (cs.length : Int) from hz]) ?_
  refine RQ.call rfl rfl (CallR.up (d := 2) (x_cinit (d := 0) (q := (q.1 + 1, q.2 + 4)) (n := cs.length) (by omega)) (by omega)) ?_
  refine RQ.seg 5 (pc' := 18) (L' := [some (.ref 27), some (.ref (tl.length + 118))]) (st' := [.ref (tl.length + 118), .int (iI 0), .ref 29]) (g1 := (HW sc ar tx oc rl ou (tl ++ [.inr (0, [.ref (tl.length + 120), .int (iI 0), .ref (tl.length + 119), .int (iI 0)]), .inl (0, 64, .inl (zA fun _ => 0)), .inl (0, cs.length, .inl (zA fun _ => 0))]), (q.1 + 1 + 1 + 1, q.2 + 4 + 64 + cs.length))) rfl ?_
  refine RQ.getfG rfl rfl tl_g0 rfl rfl ?_
  refine RQ.seg 3 (pc' := 26) (L' := [some (.ref 27), some (.ref (tl.length + 118))]) (st' := [.int (iI (sc 2701)), .int (iI 0), .ref (tl.length + 120), .int (iI 0), .ref 29]) (g1 := (HW sc ar tx oc rl ou (tl ++ [.inr (0, [.ref (tl.length + 120), .int (iI 0), .ref (tl.length + 119), .int (iI 0)]), .inl (0, 64, .inl (zA fun _ => 0)), .inl (0, cs.length, .inl (zA fun _ => 0))]), (q.1 + 1 + 1 + 1, q.2 + 4 + 64 + cs.length))) rfl ?_
  refine RQ.to (L' := [some (.ref 27), some (.ref (tl.length + 118))]) (st' := [.int (iI (cs.length : Int)), .int (iI 0), .ref (tl.length + 120), .int (iI 0), .ref 29]) rfl (by rw [show sc 2701 = (cs.length : Int) from hz]) ?_
  refine RQ.acp (n := cs.length) (f := ar 29) (f1 := fun _ => 0) (g1 := (HW sc ar tx oc rl ou (tl ++ [.inr (0, [.ref (tl.length + 120), .int (iI 0), .ref (tl.length + 119), .int (iI 0)]), .inl (0, 64, .inl (zA fun _ => 0)), .inl (0, cs.length, .inl (zA (cpz (ar 29) (fun _ => 0) (cs.length : Int))))]), (q.1 + 1 + 1 + 1, q.2 + 4 + 64 + cs.length))) rfl (by decide +kernel) rfl rfl tl_g2 (by omega) (Nat.le_refl _) (by omega) (congrArg (·, _) tl_s2) ?_
  refine RQ.seg 3 (pc' := 34) (L' := [some (.ref 27), some (.ref (tl.length + 118))]) (st' := [.int (iI (sc 2701)), .ref (tl.length + 118)]) (g1 := (HW sc ar tx oc rl ou (tl ++ [.inr (0, [.ref (tl.length + 120), .int (iI 0), .ref (tl.length + 119), .int (iI 0)]), .inl (0, 64, .inl (zA fun _ => 0)), .inl (0, cs.length, .inl (zA (cpz (ar 29) (fun _ => 0) (cs.length : Int))))]), (q.1 + 1 + 1 + 1, q.2 + 4 + 64 + cs.length))) rfl ?_
  refine RQ.to (L' := [some (.ref 27), some (.ref (tl.length + 118))]) (st' := [.int (iI (cs.length : Int)), .ref (tl.length + 118)]) rfl (by rw [show sc 2701 = (cs.length : Int) from hz]) ?_
  refine RQ.putfG (g1 := (HW sc ar tx oc rl ou (tl ++ [.inr (0, [.ref (tl.length + 120), .int (iI (cs.length : Int)), .ref (tl.length + 119), .int (iI 0)]), .inl (0, 64, .inl (zA fun _ => 0)), .inl (0, cs.length, .inl (zA (cpz (ar 29) (fun _ => 0) (cs.length : Int))))]), (q.1 + 1 + 1 + 1, q.2 + 4 + 64 + cs.length))) rfl rfl tl_g0 rfl rfl rfl rfl (congrArg (·, _) tl_s0) ?_
  refine RQ.seg 1 (pc' := 38) (L' := [some (.ref 27), some (.ref (tl.length + 118))]) (st' := [.ref (tl.length + 118)]) (g1 := (HW sc ar tx oc rl ou (tl ++ [.inr (0, [.ref (tl.length + 120), .int (iI (cs.length : Int)), .ref (tl.length + 119), .int (iI 0)]), .inl (0, 64, .inl (zA fun _ => 0)), .inl (0, cs.length, .inl (zA (cpz (ar 29) (fun _ => 0) (cs.length : Int))))]), (q.1 + 1 + 1 + 1, q.2 + 4 + 64 + cs.length))) rfl ?_
  refine RQ.ret rfl rfl ?_
  exact ⟨rfl, rfl⟩
theorem x_takeRule {K : PK} {d : Nat} {sc : Nat → Int} {ar : Nat → Int → Int} {tx oc : Nat} {rl : Nat → Option Nat} {ou : Nat → Int64} {tl : List PO} {q : Nat × Nat} {tp : List Int} (ht : TpOK tp) (hs : sc 101 = (tp.length : Int)) (hl : LAt (fun v => v) (ar 2) tp) (hK3 : K 3 = some (6, zA kc3)) (hK13 : K 13 = some (3, zA kc13)) (rc : 0 ≤ sc 5 ∧ sc 5 ≤ 4) : CQ K (d + 49) 138 [.ref 0] (HW sc ar tx oc rl ou tl, q) (fun r g' => r = some (.int (iI (sText1 (sc 5) tp))) ∧ ∃ sc' ar', Same (5 :: 101 :: ruF) sc sc' ∧ Same ruA ar ar' ∧ ((sc 5 < 4 ∧ rlF tp = -1 ∧ sc' 5 = sc 5 + 1 ∧ sc' 101 = 0 ∧ (rl9 tp).2.2.length ≤ 160 ∧ ∃ f, LAt (fun v => v) f (rl9 tp).2.2 ∧ g' = (HW sc' ar' tx oc (va_up rl (sc 5).toNat (some (tl.length + 118))) ou (tl ++ [rcC tl.length ((rl9 tp).2.2.length : Int) 0, .inl (0, 64, .inl (zA fun _ => 0)), .inl (0, (rl9 tp).2.2.length, .inl (zA f))]), (q.1 + 1 + 1 + 1, q.2 + 4 + 64 + (rl9 tp).2.2.length))) ∨ (¬ (sc 5 < 4 ∧ rlF tp = -1) ∧ sc' 5 = sc 5 ∧ sc' 101 = sc 101 ∧ g' = (HW sc' ar' tx oc rl ou tl, q)))) := by
  refine CQ.of (own := 10) (n := 1) (ini := false) (rt := (some .int)) (cd := cd138) (by decide +kernel) rfl (by decide +kernel) rfl (Nat.le_of_ble_eq_true rfl) ?_
  refine RQ.seg 3 (pc' := 5) (L' := [some (.ref 0)]) (st' := [.int (iI 4), .int (iI (sc 5))]) (g1 := (HW sc ar tx oc rl ou tl, q)) rfl ?_
  refine RQ.if2 (a := (sc 5)) (b := 4) rfl rfl rfl rfl (by omega) (by omega) (fun (h1 : 4 ≤ sc 5) => ?_) (fun (h1 : ¬ 4 ≤ sc 5) => ?_)
  · skip
    refine RQ.seg 1 (pc' := 20) (L' := [some (.ref 0)]) (st' := [.int (iI (-1))]) (g1 := (HW sc ar tx oc rl ou tl, q)) rfl ?_
    refine RQ.ret rfl rfl ?_
    exact ⟨by rw [show sText1 (sc 5) tp = -1 from if_neg (by omega)], sc, ar, Same.rf, Same.rf, Or.inr ⟨by omega, rfl, rfl, rfl⟩⟩
  · skip
    refine RQ.seg 2 (pc' := 12) (L' := [some (.ref 0)]) (st' := [.ref 26]) (g1 := (HW sc ar tx oc rl ou tl, q)) rfl ?_
    refine RQ.callQ rfl rfl (CQ.up (x_rwrong (d := 0) ht hs hl hK3 hK13) (by omega)) (fun rv g1 hc9 => ?_)
    obtain ⟨rfl, sc1, ar1, rfl, hs1, ha1, hR⟩ := hc9
    obtain ⟨⟨hs_1, hl_1⟩, hA, hZ, hW, hWr, hG⟩ := id hR
    have h5 : sc1 5 = sc 5 := hs1 5 rfl
    have hrF : -1 ≤ rlF tp ∧ rlF tp ≤ 160 := hWr
    refine RQ.seg 1 (pc' := 16) (L' := [some (.ref 0)]) (st' := [.int (iI (-1)), .int (iI (rlF tp))]) (g1 := (HW sc1 ar1 tx oc rl ou tl, q)) rfl ?_
    refine RQ.if2 (a := (rlF tp)) (b := (-1)) rfl rfl rfl rfl (by omega) (by omega) (fun (h2 : rlF tp = (-1)) => ?_) (fun (h2 : ¬ rlF tp = (-1)) => ?_)
    · skip
      refine RQ.seg 7 (pc' := 36) (L' := [some (.ref 0)]) (st' := [.ref 27, .int (iI (sc1 5)), .ref 30]) (g1 := (HW sc1 ar1 tx oc rl ou tl, q)) rfl ?_
      have hgood : rlF tp = -1 := by omega
      obtain ⟨k1, k2, k3, k4⟩ := hG hgood
      have hl160 : ((rl9 tp).2.2.length : Int) ≤ 160 := by have := ht.1; omega
      refine RQ.call rfl rfl (CallR.up (d := 3) (x_copy (d := 0) (cs := (rl9 tp).2.2) k2 (by omega)) (by omega)) ?_
      refine RQ.aast (z := sc1 5) (g1 := (HW sc1 ar1 tx oc (va_up rl (sc1 5).toNat (some (tl.length + 118))) ou (tl ++ [.inr (0, [.ref (tl.length + 120), .int (iI ((rl9 tp).2.2.length : Int)), .ref (tl.length + 119), .int (iI 0)]), .inl (0, 64, .inl (zA fun _ => 0)), .inl (0, (rl9 tp).2.2.length, .inl (zA (cpz (ar1 29) (fun _ => 0) ((rl9 tp).2.2.length : Int))))]), (q.1 + 1 + 1 + 1, q.2 + 4 + 64 + (rl9 tp).2.2.length))) rfl rfl rfl tl_g0 (by omega) (by decide) rfl ?_
      refine RQ.seg 5 (pc' := 47) (L' := [some (.ref 0)]) (st' := [.int ((iI (sc1 5)) + (iI 1)), .ref 0]) (g1 := (HW sc1 ar1 tx oc (va_up rl (sc1 5).toNat (some (tl.length + 118))) ou (tl ++ [.inr (0, [.ref (tl.length + 120), .int (iI ((rl9 tp).2.2.length : Int)), .ref (tl.length + 119), .int (iI 0)]), .inl (0, 64, .inl (zA fun _ => 0)), .inl (0, (rl9 tp).2.2.length, .inl (zA (cpz (ar1 29) (fun _ => 0) ((rl9 tp).2.2.length : Int))))]), (q.1 + 1 + 1 + 1, q.2 + 4 + 64 + (rl9 tp).2.2.length))) rfl ?_
      refine RQ.to (L' := [some (.ref 0)]) (st' := [.int (iI (sc1 5 + 1)), .ref 0]) rfl (by simp only [iI_add, iI_sub, iI_mul, iI_neg]) ?_
      refine RQ.seg 9 (pc' := 64) (L' := [some (.ref 0)]) (st' := [.int ((iI (sc1 5 + 1)) - (iI 1))]) (g1 := (HW (usc (usc sc1 5 (sc1 5 + 1)) 101 0) ar1 tx oc (va_up rl (sc1 5).toNat (some (tl.length + 118))) ou (tl ++ [.inr (0, [.ref (tl.length + 120), .int (iI ((rl9 tp).2.2.length : Int)), .ref (tl.length + 119), .int (iI 0)]), .inl (0, 64, .inl (zA fun _ => 0)), .inl (0, (rl9 tp).2.2.length, .inl (zA (cpz (ar1 29) (fun _ => 0) ((rl9 tp).2.2.length : Int))))]), (q.1 + 1 + 1 + 1, q.2 + 4 + 64 + (rl9 tp).2.2.length))) rfl ?_
      refine RQ.to (L' := [some (.ref 0)]) (st' := [.int (iI (sc1 5 + 1 - 1))]) rfl (by simp only [iI_add, iI_sub, iI_mul, iI_neg]) ?_
      refine RQ.ret rfl rfl ?_
      refine ⟨by rw [show sText1 (sc 5) tp = sc 5 from if_pos (by omega)]; exact congrArg (fun z => some (Value.int (iI z))) (by omega), usc (usc sc1 5 (sc1 5 + 1)) 101 0, ar1, Same.tr (Same.w rfl hs1) (by repeat (first | exact Same.rf | refine Same.us rfl ?_)), ha1, Or.inl ⟨by omega, hgood, by show sc1 5 + 1 = _; omega, rfl, by omega, _, cp_at k3, ?_⟩⟩
      rw [← h5]; rfl
    · skip
      refine RQ.seg 1 (pc' := 20) (L' := [some (.ref 0)]) (st' := [.int (iI (-1))]) (g1 := (HW sc1 ar1 tx oc rl ou tl, q)) rfl ?_
      refine RQ.ret rfl rfl ?_
      exact ⟨by rw [show sText1 (sc 5) tp = -1 from if_neg (by omega)], sc1, ar1, Same.w rfl hs1, ha1, Or.inr ⟨by omega, h5, hs1 101 rfl, rfl⟩⟩
