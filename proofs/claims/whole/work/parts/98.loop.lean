/-! the law's loop, the two objects made, by wip/tools -/
/-! the law's loop -/
theorem lw_loop {K : PK} {X : Nat → PL → List Value → PG → Prop} (H : Bk K X) (hKK : KOK K) {N : Nat} {f : Nat → Int32} (hK : K 19 = some (N, f)) (hN : N ≤ 3072) (hBr : ∀ (n : Nat) (g : PG), INV n g → n ≤ 600 → ∀ (i : Int), 0 ≤ i ∧ i + 6 ≤ N → ∀ e5 e6, (∀ g' e5 e6, INV (n + 1) g' → X 1215 (Lw i e5 e6) [] g') → X 332 (Lw i e5 e6) [] g) (hend : ∀ (n : Nat) (g : PG) (i : Int) e5 e6, INV n g → n ≤ 600 → X 1221 (Lw i e5 e6) [] g) : ∀ (m n : Nat) (g : PG) e5 e6, INV n g → n ≤ 512 → N ≤ 6 * n + 6 * m → X 23 (Lw (6 * (n : Int)) e5 e6) [] g
  | m, n, g, e5, e6, hI, hn, hm => by
    refine H.seg 2 (pc' := 26) (L' := Lw (6 * (n : Int)) e5 e6) (st' := [.retAddr 19, .int (iI (6 * (n : Int)))]) (g1 := g) rfl ?_
    refine H.kalen rfl hK ?_
    refine H.seg 2 (pc' := 30) (L' := Lw (6 * (n : Int)) e5 e6) (st' := [.int (iI N - iI 6), .int (iI (6 * (n : Int)))]) (g1 := g) rfl ?_
    refine H.if2 (t := 1221) (a := 6 * (n : Int)) (b := (N : Int) - 6) rfl rfl rfl (iI_sub _ _) (by omega) (by omega) (fun _ => hend n g _ _ _ hI (by omega)) (fun hc => ?_)
    have hle : 6 * (n : Int) + 6 ≤ N := by
      have : ¬ (6 * (n : Int) > (N : Int) - 6) := hc
      omega
    refine H.seg 2 (pc' := 36) (L' := Lw (6 * (n : Int)) e5 e6) (st' := [.int (iI (6 * (n : Int))), .retAddr 19]) (g1 := g) rfl ?_
    refine H.kald (z := 6 * (n : Int)) rfl rfl hK (by omega) (by omega) ?_
    obtain ⟨a, ea, ra⟩ := iI_ex (f (6 * (n : Int)).toNat)
    rw [ea]
    refine H.seg 2 (pc' := 40) (L' := Lw (6 * (n : Int)) e5 e6) (st' := [.int (iI a &&& iI 31)]) (g1 := g) rfl ?_
    have hz : iI a &&& iI 31 = iI (a % 32) := and_two_pow a 5 (by omega)
    have hr : 0 ≤ a % 32 ∧ a % 32 < 32 := by omega
    have hb : 0 ≤ 6 * (n : Int) ∧ 6 * (n : Int) + 6 ≤ N := by omega
    cases m with
    | zero => exact absurd hle (by omega)
    | succ m =>
      have hx : ∀ g' e5 e6, INV (n + 1) g' → X 1215 (Lw (6 * (n : Int)) e5 e6) [] g' := by
        intro g' e5 e6 hI'
        refine H.seg 2 (pc' := 23) (L' := [some (.retAddr 19), some (.ref 0), some (.ref 80), some (.ref 117), some (.int (iI (6 * (n : Int)) + iI 6)), e5, e6]) (st' := []) (g1 := g') rfl ?_
        refine H.to (L' := Lw (6 * ((n + 1 : Nat) : Int)) e5 e6) ?_ rfl (lw_loop H hKK hK hN hBr hend m (n + 1) g' e5 e6 hI' (by omega) (by omega))
        rw [iI_add, show 6 * (n : Int) + 6 = 6 * ((n + 1 : Nat) : Int) by omega]
        rfl
      have hn6 : n ≤ 600 := by omega
      generalize hq : a % 32 = z at hz hr
      rcases (show z = 0 ∨ z = 1 ∨ z = 2 ∨ z = 3 ∨ z = 4 ∨ z = 5 ∨ z = 6 ∨ z = 7 ∨ z = 8 ∨ z = 9 ∨ z = 10 ∨ z = 11 ∨ z = 12 ∨ z = 13 ∨ z = 14 ∨ z = 15 ∨ z = 16 ∨ z = 17 ∨ z = 18 ∨ z = 19 ∨ z = 20 ∨ z = 21 ∨ z = 22 ∨ z = 23 ∨ z = 24 ∨ z = 25 ∨ z = 26 ∨ z = 27 ∨ z = 28 ∨ z = 29 ∨ z = 30 ∨ z = 31 by omega) with rfl | rfl | rfl | rfl | rfl | rfl | rfl | rfl | rfl | rfl | rfl | rfl | rfl | rfl | rfl | rfl | rfl | rfl | rfl | rfl | rfl | rfl | rfl | rfl | rfl | rfl | rfl | rfl | rfl | rfl | rfl | rfl
      · exact H.tsw (z := 0) (t := 184) (o := 144) rfl hz (by omega) rfl rfl (lw_feed H hK hN hI hn6 hb (fun g' h => hx g' _ _ h))
      · exact H.tsw (z := 1) (t := 257) (o := 217) rfl hz (by omega) rfl rfl (lw_end H hK hN hI hn6 hb (fun g' h => hx g' _ _ h))
      · exact H.tsw (z := 2) (t := 282) (o := 242) rfl hz (by omega) rfl rfl (lw_fault H hKK hK hN hI hn6 hb (fun g' h => hx g' _ _ h))
      · exact H.tsw (z := 3) (t := 307) (o := 267) rfl hz (by omega) rfl rfl (lw_text H hKK hK hN hI hn6 hb (fun g' h => hx g' _ _ h))
      · exact H.tsw (z := 4) (t := 332) (o := 292) rfl hz (by omega) rfl rfl (hBr n g hI hn6 _ hb _ _ hx)
      · exact H.tsw (z := 5) (t := 400) (o := 360) rfl hz (by omega) rfl rfl (lw_window H hK hN hI hn6 hb (fun g' h => hx g' _ _ h))
      · exact H.tsw (z := 6) (t := 437) (o := 397) rfl hz (by omega) rfl rfl (lw_law H hK hN hI hn6 hb (fun g' h => hx g' _ _ h))
      · exact H.tsw (z := 7) (t := 462) (o := 422) rfl hz (by omega) rfl rfl (lw_change H hKK hK hN hI hn6 hb (fun g' h => hx g' _ _ h))
      · exact H.tsw (z := 8) (t := 499) (o := 459) rfl hz (by omega) rfl rfl (lw_rule H hK hN hI hn6 hb (fun g' h => hx g' _ _ h))
      · exact H.tsw (z := 9) (t := 536) (o := 496) rfl hz (by omega) rfl rfl (lw_reaches H hK hN hI hn6 hb (fun g' h => hx g' _ _ h))
      · exact H.tsw (z := 10) (t := 573) (o := 533) rfl hz (by omega) rfl rfl (lw_told H hK hN hI hn6 hb (fun g' h => hx g' _ _ h))
      · exact H.tsw (z := 11) (t := 622) (o := 582) rfl hz (by omega) rfl rfl (lw_all H hK hN hI hn6 hb (fun g' h => hx g' _ _ h))
      · exact H.tsw (z := 12) (t := 659) (o := 619) rfl hz (by omega) rfl rfl (lw_child H hK hN hI hn6 hb (fun g' h => hx g' _ _ h))
      · exact H.tsw (z := 13) (t := 708) (o := 668) rfl hz (by omega) rfl rfl (lw_best H hK hN hI hn6 hb (fun g' h => hx g' _ _ h))
      · exact H.tsw (z := 14) (t := 757) (o := 717) rfl hz (by omega) rfl rfl (lw_rests H hK hN hI hn6 hb (fun g' h => hx g' _ _ h))
      · exact H.tsw (z := 15) (t := 782) (o := 742) rfl hz (by omega) rfl rfl (lw_most H hK hN hI hn6 hb (fun g' h => hx g' _ _ h))
      · exact H.tsw (z := 16) (t := 807) (o := 767) rfl hz (by omega) rfl rfl (lw_loss H hK hN hI hn6 hb (fun g' h => hx g' _ _ h))
      · exact H.tsw (z := 17) (t := 820) (o := 780) rfl hz (by omega) rfl rfl (lw_laws H hK hN hI hn6 hb (fun g' h => hx g' _ _ h))
      · exact H.tsw (z := 18) (t := 845) (o := 805) rfl hz (by omega) rfl rfl (lw_bribe H hK hN hI hn6 hb (fun g' h => hx g' _ _ h))
      · exact H.tsw (z := 19) (t := 858) (o := 818) rfl hz (by omega) rfl rfl (lw_choice H hK hN hI hn6 hb (fun g' h => hx g' _ _ h))
      · exact H.tsw (z := 20) (t := 871) (o := 831) rfl hz (by omega) rfl rfl (lw_ash H hK hN hI hn6 hb (fun g' h => hx g' _ _ h))
      · exact H.tsw (z := 21) (t := 920) (o := 880) rfl hz (by omega) rfl rfl (lw_explain H hK hN hI hn6 hb (fun g' h => hx g' _ _ h))
      · exact H.tsw (z := 22) (t := 945) (o := 905) rfl hz (by omega) rfl rfl (lw_knocked H hK hN hI hn6 hb (fun g' h => hx g' _ _ h))
      · exact H.tsw (z := 23) (t := 958) (o := 918) rfl hz (by omega) rfl rfl (lw_joined H hK hN hI hn6 hb (fun g' h => hx g' _ _ h))
      · exact H.tsw (z := 24) (t := 995) (o := 955) rfl hz (by omega) rfl rfl (lw_reach H hK hN hI hn6 hb (fun g' h => hx g' _ _ h))
      · exact H.tsw (z := 25) (t := 1020) (o := 980) rfl hz (by omega) rfl rfl (lw_alone H hK hN hI hn6 hb (fun g' h => hx g' _ _ h))
      · exact H.tsw (z := 26) (t := 1057) (o := 1017) rfl hz (by omega) rfl rfl (lw_night H hK hN hI hn6 hb (fun g' h => hx g' _ _ h))
      · exact H.tsw (z := 27) (t := 1082) (o := 1042) rfl hz (by omega) rfl rfl (lw_drawn H hK hN hI hn6 hb (fun g' h => hx g' _ _ h))
      · exact H.tsw (z := 28) (t := 1151) (o := 1111) rfl hz (by omega) rfl rfl (lw_undo H hK hN hI hn6 hb (fun g' h => hx g' _ _ h))
      · exact H.tsw (z := 29) (t := 1164) (o := 1124) rfl hz (by omega) rfl rfl (lw_image H hK hN hI hn6 hb (fun g' h => hx g' _ _ h))
      · exact H.tsw (z := 30) (t := 1177) (o := 1137) rfl hz (by omega) rfl rfl (lw_back H hK hN hI hn6 hb (fun g' h => hx g' _ _ h))
      · exact H.tsw (z := 31) (t := 1190) (o := 1150) rfl hz (by omega) rfl rfl (lw_count H hK hN hI hn6 hb (fun g' h => hx g' _ _ h))
/-! the two objects are made: the pure machine, run -/
def pevN (O : Nat → List Value → PG → Option (Option Value × PG)) (own : Nat) (ini : Bool) (rt : Option FieldType) (K : PK) (cd : PC) : Nat → Nat → PL → List Value → PG → Option (Option Value × PG)
  | 0, _, _, _, _ => none
  | n + 1, pc, L, st, g => match pfetch cd pc with
    | none => none
    | some (ins, _) => match pret rt ins st with
      | some r => some (r, g)
      | none => match pstep own ini K ins pc L st g with
        | some S => pevN O own ini rt K cd n S.1 S.2.1 S.2.2.1 S.2.2.2
        | none => match pcall own ins st g with
          | none => none
          | some (k, as, rest) => match O k as g with
            | none => none
            | some (rv, g1) => pevN O own ini rt K cd n (pc + 3) L (rv.toList ++ rest) g1
theorem pevN_ok {O : Nat → List Value → PG → Option (Option Value × PG)} {P : Nat → List Value → PG → Option Value → PG → Prop} {own : Nat} {ini : Bool} {rt : Option FieldType} {K : PK} {cd : PC} {r : Option Value} {g' : PG} (hO : ∀ k as g rv g1, O k as g = some (rv, g1) → P k as g rv g1) : ∀ (n pc : Nat) (L : PL) (st : List Value) (g : PG), pevN O own ini rt K cd n pc L st g = some (r, g') → RunN P own ini rt K cd n pc L st g r g'
  | 0, _, _, _, _, h => by cases h
  | n + 1, pc, L, st, g, h => by
    unfold pevN at h
    cases hf : pfetch cd pc with
    | none => rw [hf] at h; cases h
    | some il =>
      obtain ⟨ins, len⟩ := il
      rw [hf] at h
      dsimp only at h
      refine ⟨ins, len, hf, ?_⟩
      cases hr : pret rt ins st with
      | some r1 =>
        rw [hr] at h
        cases h
        exact Or.inl ⟨rfl, rfl⟩
      | none =>
        rw [hr] at h
        dsimp only at h
        cases hs : pstep own ini K ins pc L st g with
        | some S =>
          rw [hs] at h
          exact Or.inr (Or.inl ⟨S, rfl, pevN_ok hO n _ _ _ _ h⟩)
        | none =>
          rw [hs] at h
          dsimp only at h
          cases hc : pcall own ins st g with
          | none => rw [hc] at h; cases h
          | some c =>
            obtain ⟨k, as, rest⟩ := c
            rw [hc] at h
            dsimp only at h
            cases ho : O k as g with
            | none => rw [ho] at h; cases h
            | some o =>
              obtain ⟨rv, g1⟩ := o
              rw [ho] at h
              exact Or.inr (Or.inr ⟨k, as, rest, rv, g1, rfl, hO _ _ _ _ _ ho, pevN_ok hO n _ _ _ _ h⟩)
def ctab (k : Nat) : Option (Nat × Nat × Bool × Option FieldType × PC) := alook k [(0, 0, 2, true, none, cd0), (9, 1, 3, true, none, cd9), (16, 2, 1, true, none, cd16), (24, 3, 2, true, none, cd24), (28, 4, 2, true, none, cd28), (49, 12, 2, true, none, cd49), (59, 5, 3, true, none, cd59), (69, 6, 3, true, none, cd69), (82, 7, 2, true, none, cd82), (92, 8, 1, true, none, cd92), (101, 9, 1, true, none, cd101), (104, 10, 1, true, none, cd104), (148, 11, 1, true, none, cd148), (239, 14, 2, false, (some .int), cd239)]
def pev (K : PK) : Nat → Nat → List Value → PG → Option (Option Value × PG)
  | 0, _, _, _ => none
  | d + 1, k, as, g => match ctab k with
    | none => none
    | some (own, n, ini, rt, cd) => bif Nat.ble (pargs as).length n then pevN (pev K d) own ini rt K cd 400 0 (pinit n as) [] g else none
def ctOK (e : Nat × Nat × Nat × Bool × Option FieldType × PC) : Prop := e.1 < mthL.length ∧ (mrec e.1).2.2.1 = e.2.2.1 ∧ (mrec e.1).2.2.2 = (e.2.2.2.2.1, e.2.1) ∧ minit e.1 = e.2.2.2.1 ∧ codeT.getD e.1 [] = e.2.2.2.2.2
theorem ct_0 : ctOK (0, 0, 2, true, none, cd0) := ⟨by decide +kernel, rfl, rfl, by decide +kernel, rfl⟩
theorem ct_9 : ctOK (9, 1, 3, true, none, cd9) := ⟨by decide +kernel, rfl, rfl, by decide +kernel, rfl⟩
theorem ct_16 : ctOK (16, 2, 1, true, none, cd16) := ⟨by decide +kernel, rfl, rfl, by decide +kernel, rfl⟩
theorem ct_24 : ctOK (24, 3, 2, true, none, cd24) := ⟨by decide +kernel, rfl, rfl, by decide +kernel, rfl⟩
theorem ct_28 : ctOK (28, 4, 2, true, none, cd28) := ⟨by decide +kernel, rfl, rfl, by decide +kernel, rfl⟩
theorem ct_49 : ctOK (49, 12, 2, true, none, cd49) := ⟨by decide +kernel, rfl, rfl, by decide +kernel, rfl⟩
theorem ct_59 : ctOK (59, 5, 3, true, none, cd59) := ⟨by decide +kernel, rfl, rfl, by decide +kernel, rfl⟩
theorem ct_69 : ctOK (69, 6, 3, true, none, cd69) := ⟨by decide +kernel, rfl, rfl, by decide +kernel, rfl⟩
theorem ct_82 : ctOK (82, 7, 2, true, none, cd82) := ⟨by decide +kernel, rfl, rfl, by decide +kernel, rfl⟩
theorem ct_92 : ctOK (92, 8, 1, true, none, cd92) := ⟨by decide +kernel, rfl, rfl, by decide +kernel, rfl⟩
theorem ct_101 : ctOK (101, 9, 1, true, none, cd101) := ⟨by decide +kernel, rfl, rfl, by decide +kernel, rfl⟩
theorem ct_104 : ctOK (104, 10, 1, true, none, cd104) := ⟨by decide +kernel, rfl, rfl, by decide +kernel, rfl⟩
theorem ct_148 : ctOK (148, 11, 1, true, none, cd148) := ⟨by decide +kernel, rfl, rfl, by decide +kernel, rfl⟩
theorem ct_239 : ctOK (239, 14, 2, false, (some .int), cd239) := ⟨by decide +kernel, rfl, rfl, by decide +kernel, rfl⟩
theorem ctab_ok {k : Nat} {e : Nat × Nat × Bool × Option FieldType × PC} (h : ctab k = some e) : ctOK (k, e) := by
  have h1 : (k, e) ∈ [(0, 0, 2, true, none, cd0), (9, 1, 3, true, none, cd9), (16, 2, 1, true, none, cd16), (24, 3, 2, true, none, cd24), (28, 4, 2, true, none, cd28), (49, 12, 2, true, none, cd49), (59, 5, 3, true, none, cd59), (69, 6, 3, true, none, cd69), (82, 7, 2, true, none, cd82), (92, 8, 1, true, none, cd92), (101, 9, 1, true, none, cd101), (104, 10, 1, true, none, cd104), (148, 11, 1, true, none, cd148), (239, 14, 2, false, (some .int), cd239)] := alook_mem h
  simp only [List.mem_cons, List.not_mem_nil, or_false] at h1
  rcases h1 with h1 | h1 | h1 | h1 | h1 | h1 | h1 | h1 | h1 | h1 | h1 | h1 | h1 | h1
  · rw [h1]; exact ct_0
  · rw [h1]; exact ct_9
  · rw [h1]; exact ct_16
  · rw [h1]; exact ct_24
  · rw [h1]; exact ct_28
  · rw [h1]; exact ct_49
  · rw [h1]; exact ct_59
  · rw [h1]; exact ct_69
  · rw [h1]; exact ct_82
  · rw [h1]; exact ct_92
  · rw [h1]; exact ct_101
  · rw [h1]; exact ct_104
  · rw [h1]; exact ct_148
  · rw [h1]; exact ct_239
theorem pev_ok {K : PK} : ∀ (d k : Nat) (as : List Value) (g : PG) (r : Option Value) (g' : PG), pev K d k as g = some (r, g') → CallR K d k as g r g'
  | 0, _, _, _, _, _, h => by cases h
  | d + 1, k, as, g, r, g', h => by
    unfold pev at h
    cases hc : ctab k with
    | none => rw [hc] at h; cases h
    | some e =>
      obtain ⟨own, n, ini, rt, cd⟩ := e
      rw [hc] at h
      dsimp only at h
      cases hl : Nat.ble (pargs as).length n with
      | false => rw [hl] at h; cases h
      | true =>
        rw [hl] at h
        obtain ⟨c1, c2, c3, c4, c5⟩ := ctab_ok hc
        exact Or.inr ⟨c1, Nat.le_trans (Nat.le_of_ble_eq_true hl) (Nat.le_of_eq c2.symm), 400, by
          rw [show (mrec k).2.2.2.2 = own from congrArg Prod.snd c3, show (mrec k).2.2.2.1 = rt from congrArg Prod.fst c3, show minit k = ini from c4, show codeT.getD k [] = cd from c5, show (mrec k).2.2.1 = n from c2]
          exact pevN_ok (fun k as g rv g1 h => pev_ok d k as g rv g1 h) 400 _ _ _ _ h⟩

/-- the constants of the class, and the script -/
def KL (N : Nat) (f : Nat → Int32) : PK := fun n => alook n [(0, (4, zA kc0)), (1, (3, zA kc1)), (2, (4, zA kc2)), (3, (6, zA kc3)), (4, (4, zA kc4)), (5, (4, zA kc5)), (6, (4, zA kc6)), (7, (4, zA kc7)), (8, (3, zA kc8)), (9, (3, zA kc9)), (10, (3, zA kc10)), (11, (4, zA kc11)), (12, (4, zA kc12)), (13, (3, zA kc13)), (19, (N, f))]
theorem KL_ok (N : Nat) (f : Nat → Int32) : KOK (KL N f) := ⟨rfl, rfl, rfl, rfl, rfl, rfl, rfl, rfl, rfl, rfl, rfl, rfl, rfl, rfl⟩
def HZ : List PO := HW (fun _ => 0) (fun _ _ => 0) 81 71 (fun _ => none) (fun _ => 0) []
set_option maxRecDepth 100000 in
theorem ini_x (N : Nat) (f : Nat → Int32) : pev (KL N f) 60 104 [.ref 0] ([.inr (10, dfl 10)], 1, 15) = some (none, (HZ.take 80, 80, 3237)) := rfl
set_option maxRecDepth 100000 in
theorem ini_m (N : Nat) (f : Nat → Int32) : pev (KL N f) 60 148 [.ref 80] (HZ.take 80 ++ [.inr (11, dfl 11)], 81, 3303) = some (none, (HZ.take 117, 117, 98829)) := rfl
def Z0 : SS := (fun _ => 0, fun _ => 0, 0, fun _ => 0, fun _ => 0, fun _ => 0, 0, 0, fun _ => 0, fun _ => 0, fun _ _ => 0, fun _ _ => 0)
theorem Z0_o : SeO Z0 0 (fun _ => 0) (fun _ => 0) (fun _ => 0) (fun _ => 0) (fun _ => 0) := ⟨fun _ _ _ => rfl, fun _ _ _ => rfl, rfl, fun _ _ _ => ⟨rfl, rfl, rfl⟩⟩
theorem Z0_a : NtA (zD Z0) 0 0 (fun _ => 0) (fun _ => 0) (fun _ => 0) (fun _ => 0) := ⟨rfl, rfl, fun _ _ _ => ⟨rfl, rfl⟩, fun _ _ _ _ _ _ => ⟨rfl, rfl⟩⟩
theorem Z0_b : NtB 0 (zD Z0) 0 0 (fun _ => 0) (fun _ => 0) (fun _ => 0) (fun _ => 0) := ⟨rfl, rfl, fun _ _ _ => ⟨rfl, rfl⟩, fun _ _ _ _ _ _ => ⟨rfl, rfl⟩⟩
theorem Z0_z : GZ 0 0 [] (40 * ((0 : Nat) : Int)) Z0 := by
  have l0 : zL Z0 = fun _ => 0 := rfl
  have n0 : zN Z0 = 0 := rfl
  have d0 : dN (zD Z0) = 0 := rfl
  have u0 : dU (zD Z0) = 0 := rfl
  refine ⟨⟨?_, by rw [n0]; omega, by rw [u0]; omega, by rw [u0, d0]; omega, by rw [d0]; omega, fun _ _ _ => ⟨rfl, rfl⟩⟩, ⟨by rw [n0]; omega, fun k h1 h2 => ?_⟩, fun b h1 h2 => ?_, by rw [d0]; omega⟩
  · rw [l0]
    exact ⟨by dsimp only; omega, by dsimp only; omega, by dsimp only; omega, by dsimp only; omega⟩
  · rw [n0] at h2
    exact absurd h1 (by omega)
  · exact absurd h1 (by omega)
theorem INV_0 : INV 0 (HZ, 118, 98830) := by
  refine ⟨fun _ => 0, fun _ _ => 0, 81, 71, fun _ => none, fun _ => 0, [], (118, 98830), [], 0, 0, fun _ _ => 0, fun _ _ => 0, Z0, Z0, [], fun _ => 0, fun _ => 0, fun _ => 0, 0, rfl, ?_, ?_, ?_, ?_, ?_, ?_, ?_, Z0_z, Z0_z, ?_, ?_, ?_, ?_, ?_, ?_⟩
  · exact ⟨by decide, fun k h1 h2 => absurd h1 (by have : k < 0 := h2; omega)⟩
  · exact ⟨by omega, fun w h1 h2 => absurd h1 (by omega), fun w h1 h2 => absurd h1 (by omega)⟩
  · exact ⟨rfl, fun k h1 h2 => absurd h1 (by have : k < 0 := h2; omega)⟩
  · exact ⟨rfl, fun k h1 h2 => absurd h1 (by have : k < 0 := h2; omega)⟩
  · exact ⟨⟨rfl, rfl, fun _ _ _ => ⟨fun _ => rfl, fun _ => rfl, fun _ => rfl, fun _ => rfl⟩, fun _ _ _ => ⟨fun _ => rfl, fun _ => rfl, fun _ => rfl⟩⟩, ⟨rfl, rfl, fun _ _ _ => ⟨rfl, rfl, rfl, rfl⟩, fun _ _ _ => ⟨rfl, rfl, rfl⟩⟩, fun w h1 h2 => absurd h1 (by omega)⟩
  · exact ⟨Z0_o, Z0_a⟩
  · exact ⟨Z0_o, Z0_b⟩
  · exact ⟨Or.inl rfl, rfl, fun h => absurd (show (0 : Int) = 1 from h) (by omega)⟩
  · exact ⟨⟨⟨Int.le_refl 0, by decide⟩, fun h => absurd (show (0 : Int) = 1 from h) (by omega)⟩, ⟨⟨Int.le_refl 0, by decide⟩, fun h => absurd (show (0 : Int) = 1 from h) (by omega)⟩, ⟨⟨Int.le_refl 0, by decide⟩, fun h => absurd (show (0 : Int) = 1 from h) (by omega)⟩, ⟨⟨Int.le_refl 0, by decide⟩, fun h => absurd (show (0 : Int) = 1 from h) (by omega)⟩⟩
  · exact Or.inr ⟨rfl, by omega, Or.inl ⟨rfl, rfl⟩⟩
  · exact ⟨⟨rfl, by decide, fun k h => absurd h (Nat.not_lt_zero _)⟩, fun k _ _ => ⟨by dsimp only; omega, by dsimp only; omega⟩⟩
  · exact ⟨rfl, by decide, fun k h => absurd h (Nat.not_lt_zero _)⟩
  · exact ⟨by show 118 ≤ 118 + oC 0 + 3 * 0 + 0; omega, by show 98830 ≤ 200000 + oB 0 + 228 * 0 + 6 * 0; omega⟩
def L0 : PL := [some (.retAddr 19), none, none, none, none, none, none]
/-- the whole law -/
theorem law_all {N : Nat} {f : Nat → Int32} {X : Nat → PL → List Value → PG → Prop} (H : Bk (KL N f) X) (hN : N ≤ 3072) (hBr : ∀ (n : Nat) (g : PG), INV n g → n ≤ 600 → ∀ (i : Int), 0 ≤ i ∧ i + 6 ≤ N → ∀ e5 e6, (∀ g' e5 e6, INV (n + 1) g' → X 1215 (Lw i e5 e6) [] g') → X 332 (Lw i e5 e6) [] g) (hend : ∀ (n : Nat) (g : PG) (i : Int) e5 e6, INV n g → n ≤ 600 → X 1221 (Lw i e5 e6) [] g) : X 0 L0 [] ([], 0, 0) := by
  refine H.seg 2 (pc' := 4) (L' := L0) (st' := [.ref 0, .ref 0]) (g1 := ([.inr (10, dfl 10)], 1, 15)) rfl ?_
  refine H.call (ins := .invokespecial 15) (len := 3) rfl rfl (pev_ok _ _ _ _ _ _ (ini_x N f)) ?_
  refine H.seg 3 (pc' := 12) (L' := [some (.retAddr 19), some (.ref 0), none, none, none, none, none]) (st' := [.ref 80, .ref 80]) (g1 := (HZ.take 80 ++ [.inr (11, dfl 11)], 81, 3303)) rfl ?_
  refine H.call (ins := .invokespecial 18) (len := 3) rfl rfl (pev_ok _ _ _ _ _ _ (ini_m N f)) ?_
  refine H.seg 6 (pc' := 23) (L' := Lw (6 * ((0 : Nat) : Int)) none none) (st' := []) (g1 := (HZ, 118, 98830)) rfl ?_
  exact lw_loop H (KL_ok N f) rfl hN hBr hend 512 0 _ _ _ INV_0 (by omega) (by omega)

