/-! ashes of the class, by wip/tools -/
/-! ashes of the class -/
theorem shk_0 {nw nb : Int} {W B : Int → Int → Int} {i b : Int} (hF : FrOK nw nb W B) (hb : nb ≤ b ∧ b < 3) : shk nb W B (PI nw nb W B i) b = 0 := by
  have hn := hF.1
  have hx := x3_r (mny_b (nw := nw) (nb := nb) (W := W) (B := B) hn.2.1) (i := i) (b := b) (by omega)
  rw [mny_f (by omega)] at hx
  have e : PI nw nb W B i b = 99 := by
    unfold PI
    rw [plx_f (by omega), show x3 (mny nw nb W B) i b = 0 by omega]
    rfl
  exact shn_b (bkn_99 e _) _
theorem mko_sk {nw nb : Int} {W B : Int → Int → Int} (hF : FrOK nw nb W B) {r e : Int → Int} (hr : Mk01 r) (he : Mk01 e) (i : Int) {b : Int} (hb : 0 ≤ b ∧ b < 3) : ski (mko nw nb W B r e i) b = shk nb W B (PI nw nb W B i) b := by
  by_cases h : b < nb
  · exact pk_sk hF (PI_ok hF i) (svn_ok hF (PI_ok hF i)) (svn_j hF (PI_ok hF i)) ⟨hb.1, h⟩ (hr i) (he i)
  · rw [shk_0 hF (by omega)]
    exact pk_sk0 hF (PI_ok hF i) (svn_ok hF (PI_ok hF i)) (svn_j hF (PI_ok hF i)) (by omega) (hr i) (he i)
theorem mko_sv {nw nb : Int} {W B : Int → Int → Int} (hF : FrOK nw nb W B) {r e : Int → Int} (hr : Mk01 r) (he : Mk01 e) (i : Int) {b : Int} (hb : 0 ≤ b ∧ b < nb) : svi (mko nw nb W B r e i) b = sS (svn nb W B (PI nw nb W B i)) b := pk_sv hF (PI_ok hF i) (svn_ok hF (PI_ok hF i)) (svn_j hF (PI_ok hF i)) hb (hr i) (he i)
theorem xcn_3 {nw nb : Int} {W B : Int → Int → Int} (hF : FrOK nw nb W B) {i : Int} : ∀ n : Nat, nb.toNat ≤ n → n ≤ 3 → xcn nw nb W B i n = xcn nw nb W B i nb.toNat
  | 0, h, _ => by rw [show nb.toNat = 0 by omega]
  | n + 1, h, h3 => by
    by_cases e : nb.toNat = n + 1
    · rw [e]
    · rw [xcn, if_neg (by rw [shk_0 hF (by omega)]; decide)]
      exact xcn_3 hF n (by omega) (by omega)
def exF : List Nat := rnF ++ [7702, 7703]
theorem x_addAsh {K : PK} {d : Nat} {sc : Nat → Int} {ar : Nat → Int → Int} {tx oc : Nat} {rl : Nat → Option Nat} {ou : Nat → Int64} {tl : List PO} {q : Nat × Nat} {s w v : Int} (hn1 : 0 ≤ sc 3105 ∧ sc 3105 < 10) : CallR K (d + 1) 94 [.ref 31, .int (iI s), .int (iI w), .int (iI v)] (HW sc ar tx oc rl ou tl, q) none (HW (usc sc 3105 (sc 3105 + 1)) (usc (usc (usc ar 34 (usz (ar 34) (sc 3105) s)) 35 (usz (ar 35) (sc 3105) w)) 36 (usz (ar 36) (sc 3105) v)) tx oc rl ou tl, q) := by
  apply CQ.x
  refine CQ.of (own := 8) (n := 4) (ini := false) (rt := none) (cd := cd94) (by decide +kernel) rfl (by decide +kernel) rfl (Nat.le_of_ble_eq_true rfl) ?_
  refine RQ.seg 3 (pc' := 6) (L' := [some (.ref 31), some (.int (iI s)), some (.int (iI w)), some (.int (iI v))]) (st' := [.int (iI 10), .int (iI (sc 3105))]) (g1 := (HW sc ar tx oc rl ou tl, q)) rfl ?_
  refine RQ.if2 (a := (sc 3105)) (b := 10) rfl rfl rfl rfl (by omega) (by omega) (fun (q : 10 ≤ sc 3105) => absurd q (show ¬ 10 ≤ sc 3105 from by omega)) (fun _ => ?_)
  refine RQ.seg 5 (pc' := 18) (L' := [some (.ref 31), some (.int (iI s)), some (.int (iI w)), some (.int (iI v))]) (st' := [.int (iI s), .int (iI (sc 3105)), .ref 34]) (g1 := (HW sc ar tx oc rl ou tl, q)) rfl ?_
  refine RQ.iast (z := (sc 3105)) (v := s) (g1 := (HW sc (usc ar 34 (usz (ar 34) (sc 3105) s)) tx oc rl ou tl, q)) rfl rfl rfl rfl (by omega) (by decide) (HWa_34 rfl) ?_
  refine RQ.seg 5 (pc' := 28) (L' := [some (.ref 31), some (.int (iI s)), some (.int (iI w)), some (.int (iI v))]) (st' := [.int (iI w), .int (iI (sc 3105)), .ref 35]) (g1 := (HW sc (usc ar 34 (usz (ar 34) (sc 3105) s)) tx oc rl ou tl, q)) rfl ?_
  refine RQ.iast (z := (sc 3105)) (v := w) (g1 := (HW sc (usc (usc ar 34 (usz (ar 34) (sc 3105) s)) 35 (usz (ar 35) (sc 3105) w)) tx oc rl ou tl, q)) rfl rfl rfl rfl (by omega) (by decide) (HWa_35 rfl) ?_
  refine RQ.seg 5 (pc' := 38) (L' := [some (.ref 31), some (.int (iI s)), some (.int (iI w)), some (.int (iI v))]) (st' := [.int (iI v), .int (iI (sc 3105)), .ref 36]) (g1 := (HW sc (usc (usc ar 34 (usz (ar 34) (sc 3105) s)) 35 (usz (ar 35) (sc 3105) w)) tx oc rl ou tl, q)) rfl ?_
  refine RQ.iast (z := (sc 3105)) (v := v) (g1 := (HW sc (usc (usc (usc ar 34 (usz (ar 34) (sc 3105) s)) 35 (usz (ar 35) (sc 3105) w)) 36 (usz (ar 36) (sc 3105) v)) tx oc rl ou tl, q)) rfl rfl rfl rfl (by omega) (by decide) (HWa_36 rfl) ?_
  refine RQ.seg 5 (pc' := 46) (L' := [some (.ref 31), some (.int (iI s)), some (.int (iI w)), some (.int (iI v))]) (st' := [.int ((iI (sc 3105)) + (iI 1)), .ref 31]) (g1 := (HW sc (usc (usc (usc ar 34 (usz (ar 34) (sc 3105) s)) 35 (usz (ar 35) (sc 3105) w)) 36 (usz (ar 36) (sc 3105) v)) tx oc rl ou tl, q)) rfl ?_
  refine RQ.to (L' := [some (.ref 31), some (.int (iI s)), some (.int (iI w)), some (.int (iI v))]) (st' := [.int (iI (sc 3105 + 1)), .ref 31]) rfl (by simp only [iI_add, iI_sub, iI_mul, iI_neg]) ?_
  refine RQ.seg 1 (pc' := 49) (L' := [some (.ref 31), some (.int (iI s)), some (.int (iI w)), some (.int (iI v))]) (st' := []) (g1 := (HW (usc sc 3105 (sc 3105 + 1)) (usc (usc (usc ar 34 (usz (ar 34) (sc 3105) s)) 35 (usz (ar 35) (sc 3105) w)) 36 (usz (ar 36) (sc 3105) v)) tx oc rl ou tl, q)) rfl ?_
  refine RQ.ret rfl rfl ?_
  exact ⟨rfl, rfl⟩
theorem x_ash_t {K : PK} {d : Nat} {sc : Nat → Int} {ar : Nat → Int → Int} {tx oc : Nat} {rl : Nat → Option Nat} {ou : Nat → Int64} {tl : List PO} {q : Nat × Nat} {s w v : Int} {nw nb : Int} {W B : Int → Int → Int} (hF : FrOK nw nb W B) (hX : FrX (sc 303) (sc 304) (ar 5) (ar 6) (ar 7) (ar 8) (ar 10) (ar 11) (ar 12) nw nb W B) (hn1 : 0 ≤ sc 3105 ∧ sc 3105 ≤ 10) (rs : -2147483648 ≤ s ∧ s < 2147483648) (rw : -2147483648 ≤ w ∧ w < 2147483648) (rv : -2147483648 ≤ v ∧ v < 2147483648) (hc : 0 < nb ∧ sc 3105 < 10 ∧ ((s = 0 ∧ (0 ≤ w ∧ w < 6) ∧ (0 ≤ v ∧ v ≤ 1)) ∨ (s = 1 ∧ (0 ≤ w ∧ w < nw) ∧ (0 ≤ v ∧ v ≤ 9)))) : CallR K (d + 2) 125 [.ref 0, .int (iI s), .int (iI w), .int (iI v)] (HW sc ar tx oc rl ou tl, q) (some (.int (iI (sc 3105 + 1)))) (HW (usc (usc sc 3105 (sc 3105 + 1)) 7703 0) (usc (usc (usc ar 34 (usz (ar 34) (sc 3105) s)) 35 (usz (ar 35) (sc 3105) w)) 36 (usz (ar 36) (sc 3105) v)) tx oc rl ou tl, q) := by
  apply CQ.x
  have hn := hF.1
  have hm1 := hX.1
  have hm2 := hX.2.1
  refine CQ.of (own := 10) (n := 6) (ini := false) (rt := (some .int)) (cd := cd125) (by decide +kernel) rfl (by decide +kernel) rfl (Nat.le_of_ble_eq_true rfl) ?_
  refine RQ.seg 1 (pc' := 1) (L' := [some (.ref 0), some (.int (iI s)), some (.int (iI w)), some (.int (iI v)), none, none]) (st' := [.int (iI s)]) (g1 := (HW sc ar tx oc rl ou tl, q)) rfl ?_
  refine RQ.if1 (a := s) rfl rfl rfl (by omega) (fun (h1 : s ≠ 0) => ?_) (fun (h1 : ¬ s ≠ 0) => ?_)
  · skip
    refine RQ.seg 4 (pc' := 32) (L' := [some (.ref 0), some (.int (iI s)), some (.int (iI w)), some (.int (iI v)), some (.int (iI 0)), none]) (st' := [.int (iI 1), .int (iI s)]) (g1 := (HW sc ar tx oc rl ou tl, q)) rfl ?_
    refine RQ.if2 (a := s) (b := 1) rfl rfl rfl rfl (by omega) (by omega) (fun (h2 : s ≠ 1) => ?_) (fun (h2 : ¬ s ≠ 1) => ?_)
    · skip
      refine RQ.seg 4 (pc' := 64) (L' := [some (.ref 0), some (.int (iI s)), some (.int (iI w)), some (.int (iI v)), some (.int (iI 0)), some (.int (iI 0))]) (st' := [.ref 3]) (g1 := (HW sc ar tx oc rl ou tl, q)) rfl ?_
      rcases Decidable.em (0 < nb) with h3 | h3
      · skip
        refine RQ.call rfl rfl (x_standsN_t hX hF h3) ?_
        refine RQ.seg 6 (pc' := 93) (L' := [some (.ref 0), some (.int (iI s)), some (.int (iI w)), some (.int (iI v)), some (.int (iI 0)), some (.int (iI 0))]) (st' := [.int (iI (-1))]) (g1 := (HW sc ar tx oc rl ou tl, q)) rfl ?_
        refine RQ.ret rfl rfl ?_
        first | (exfalso; omega) | exact ⟨rfl, rfl⟩
      · skip
        refine RQ.call rfl rfl (x_standsN_f hX hF h3) ?_
        refine RQ.seg 2 (pc' := 93) (L' := [some (.ref 0), some (.int (iI s)), some (.int (iI w)), some (.int (iI v)), some (.int (iI 0)), some (.int (iI 0))]) (st' := [.int (iI (-1))]) (g1 := (HW sc ar tx oc rl ou tl, q)) rfl ?_
        refine RQ.ret rfl rfl ?_
        first | (exfalso; omega) | exact ⟨rfl, rfl⟩
    · skip
      refine RQ.seg 2 (pc' := 37) (L' := [some (.ref 0), some (.int (iI s)), some (.int (iI w)), some (.int (iI v)), some (.int (iI 0)), none]) (st' := [.int (iI w), .ref 0]) (g1 := (HW sc ar tx oc rl ou tl, q)) rfl ?_
      rcases Decidable.em (0 ≤ w ∧ w < nw) with h4 | h4
      · skip
        refine RQ.call rfl rfl (x_isWiN_t (by omega) hX hF h4) ?_
        refine RQ.seg 2 (pc' := 44) (L' := [some (.ref 0), some (.int (iI s)), some (.int (iI w)), some (.int (iI v)), some (.int (iI 0)), none]) (st' := [.int (iI v)]) (g1 := (HW sc ar tx oc rl ou tl, q)) rfl ?_
        refine RQ.if1 (a := v) rfl rfl rfl (by omega) (fun (h5 : v < 0) => ?_) (fun (h5 : ¬ v < 0) => ?_)
        · skip
          refine RQ.seg 4 (pc' := 64) (L' := [some (.ref 0), some (.int (iI s)), some (.int (iI w)), some (.int (iI v)), some (.int (iI 0)), some (.int (iI 0))]) (st' := [.ref 3]) (g1 := (HW sc ar tx oc rl ou tl, q)) rfl ?_
          rcases Decidable.em (0 < nb) with h6 | h6
          · skip
            refine RQ.call rfl rfl (x_standsN_t hX hF h6) ?_
            refine RQ.seg 6 (pc' := 93) (L' := [some (.ref 0), some (.int (iI s)), some (.int (iI w)), some (.int (iI v)), some (.int (iI 0)), some (.int (iI 0))]) (st' := [.int (iI (-1))]) (g1 := (HW sc ar tx oc rl ou tl, q)) rfl ?_
            refine RQ.ret rfl rfl ?_
            first | (exfalso; omega) | exact ⟨rfl, rfl⟩
          · skip
            refine RQ.call rfl rfl (x_standsN_f hX hF h6) ?_
            refine RQ.seg 2 (pc' := 93) (L' := [some (.ref 0), some (.int (iI s)), some (.int (iI w)), some (.int (iI v)), some (.int (iI 0)), some (.int (iI 0))]) (st' := [.int (iI (-1))]) (g1 := (HW sc ar tx oc rl ou tl, q)) rfl ?_
            refine RQ.ret rfl rfl ?_
            first | (exfalso; omega) | exact ⟨rfl, rfl⟩
        · skip
          refine RQ.seg 2 (pc' := 50) (L' := [some (.ref 0), some (.int (iI s)), some (.int (iI w)), some (.int (iI v)), some (.int (iI 0)), none]) (st' := [.int (iI 9), .int (iI v)]) (g1 := (HW sc ar tx oc rl ou tl, q)) rfl ?_
          refine RQ.if2 (a := v) (b := 9) rfl rfl rfl rfl (by omega) (by omega) (fun (h7 : 9 < v) => ?_) (fun (h7 : ¬ 9 < v) => ?_)
          · skip
            refine RQ.seg 4 (pc' := 64) (L' := [some (.ref 0), some (.int (iI s)), some (.int (iI w)), some (.int (iI v)), some (.int (iI 0)), some (.int (iI 0))]) (st' := [.ref 3]) (g1 := (HW sc ar tx oc rl ou tl, q)) rfl ?_
            rcases Decidable.em (0 < nb) with h8 | h8
            · skip
              refine RQ.call rfl rfl (x_standsN_t hX hF h8) ?_
              refine RQ.seg 6 (pc' := 93) (L' := [some (.ref 0), some (.int (iI s)), some (.int (iI w)), some (.int (iI v)), some (.int (iI 0)), some (.int (iI 0))]) (st' := [.int (iI (-1))]) (g1 := (HW sc ar tx oc rl ou tl, q)) rfl ?_
              refine RQ.ret rfl rfl ?_
              first | (exfalso; omega) | exact ⟨rfl, rfl⟩
            · skip
              refine RQ.call rfl rfl (x_standsN_f hX hF h8) ?_
              refine RQ.seg 2 (pc' := 93) (L' := [some (.ref 0), some (.int (iI s)), some (.int (iI w)), some (.int (iI v)), some (.int (iI 0)), some (.int (iI 0))]) (st' := [.int (iI (-1))]) (g1 := (HW sc ar tx oc rl ou tl, q)) rfl ?_
              refine RQ.ret rfl rfl ?_
              first | (exfalso; omega) | exact ⟨rfl, rfl⟩
          · skip
            refine RQ.seg 5 (pc' := 64) (L' := [some (.ref 0), some (.int (iI s)), some (.int (iI w)), some (.int (iI v)), some (.int (iI 0)), some (.int (iI 1))]) (st' := [.ref 3]) (g1 := (HW sc ar tx oc rl ou tl, q)) rfl ?_
            rcases Decidable.em (0 < nb) with h9 | h9
            · skip
              refine RQ.call rfl rfl (x_standsN_t hX hF h9) ?_
              refine RQ.seg 9 (pc' := 89) (L' := [some (.ref 0), some (.int (iI s)), some (.int (iI w)), some (.int (iI v)), some (.int (iI 0)), some (.int (iI 1))]) (st' := [.int (iI 10), .int (iI (sc 3105))]) (g1 := (HW sc ar tx oc rl ou tl, q)) rfl ?_
              refine RQ.if2 (a := (sc 3105)) (b := 10) rfl rfl rfl rfl (by omega) (by omega) (fun (h10 : sc 3105 < 10) => ?_) (fun (h10 : ¬ sc 3105 < 10) => ?_)
              · skip
                refine RQ.seg 5 (pc' := 101) (L' := [some (.ref 0), some (.int (iI s)), some (.int (iI w)), some (.int (iI v)), some (.int (iI 0)), some (.int (iI 1))]) (st' := [.int (iI v), .int (iI w), .int (iI s), .ref 31]) (g1 := (HW sc ar tx oc rl ou tl, q)) rfl ?_
                refine RQ.call rfl rfl (x_addAsh (by omega)) ?_
                refine RQ.seg 2 (pc' := 108) (L' := [some (.ref 0), some (.int (iI s)), some (.int (iI w)), some (.int (iI v)), some (.int (iI 0)), some (.int (iI 1))]) (st' := [.ref 77]) (g1 := (HW (usc sc 3105 (sc 3105 + 1)) (usc (usc (usc ar 34 (usz (ar 34) (sc 3105) s)) 35 (usz (ar 35) (sc 3105) w)) 36 (usz (ar 36) (sc 3105) v)) tx oc rl ou tl, q)) rfl ?_
                refine RQ.call rfl rfl x_eforget ?_
                refine RQ.seg 3 (pc' := 118) (L' := [some (.ref 0), some (.int (iI s)), some (.int (iI w)), some (.int (iI v)), some (.int (iI 0)), some (.int (iI 1))]) (st' := [.int (iI (sc 3105 + 1))]) (g1 := (HW (usc (usc sc 3105 (sc 3105 + 1)) 7703 0) (usc (usc (usc ar 34 (usz (ar 34) (sc 3105) s)) 35 (usz (ar 35) (sc 3105) w)) 36 (usz (ar 36) (sc 3105) v)) tx oc rl ou tl, q)) rfl ?_
                refine RQ.ret rfl rfl ?_
                first | (exfalso; omega) | exact ⟨rfl, rfl⟩
              · skip
                refine RQ.seg 1 (pc' := 93) (L' := [some (.ref 0), some (.int (iI s)), some (.int (iI w)), some (.int (iI v)), some (.int (iI 0)), some (.int (iI 1))]) (st' := [.int (iI (-1))]) (g1 := (HW sc ar tx oc rl ou tl, q)) rfl ?_
                refine RQ.ret rfl rfl ?_
                first | (exfalso; omega) | exact ⟨rfl, rfl⟩
            · skip
              refine RQ.call rfl rfl (x_standsN_f hX hF h9) ?_
              refine RQ.seg 2 (pc' := 93) (L' := [some (.ref 0), some (.int (iI s)), some (.int (iI w)), some (.int (iI v)), some (.int (iI 0)), some (.int (iI 1))]) (st' := [.int (iI (-1))]) (g1 := (HW sc ar tx oc rl ou tl, q)) rfl ?_
              refine RQ.ret rfl rfl ?_
              first | (exfalso; omega) | exact ⟨rfl, rfl⟩
      · skip
        refine RQ.call rfl rfl (x_isWiN_f (by omega) hX hF h4) ?_
        refine RQ.seg 5 (pc' := 64) (L' := [some (.ref 0), some (.int (iI s)), some (.int (iI w)), some (.int (iI v)), some (.int (iI 0)), some (.int (iI 0))]) (st' := [.ref 3]) (g1 := (HW sc ar tx oc rl ou tl, q)) rfl ?_
        rcases Decidable.em (0 < nb) with h11 | h11
        · skip
          refine RQ.call rfl rfl (x_standsN_t hX hF h11) ?_
          refine RQ.seg 6 (pc' := 93) (L' := [some (.ref 0), some (.int (iI s)), some (.int (iI w)), some (.int (iI v)), some (.int (iI 0)), some (.int (iI 0))]) (st' := [.int (iI (-1))]) (g1 := (HW sc ar tx oc rl ou tl, q)) rfl ?_
          refine RQ.ret rfl rfl ?_
          first | (exfalso; omega) | exact ⟨rfl, rfl⟩
        · skip
          refine RQ.call rfl rfl (x_standsN_f hX hF h11) ?_
          refine RQ.seg 2 (pc' := 93) (L' := [some (.ref 0), some (.int (iI s)), some (.int (iI w)), some (.int (iI v)), some (.int (iI 0)), some (.int (iI 0))]) (st' := [.int (iI (-1))]) (g1 := (HW sc ar tx oc rl ou tl, q)) rfl ?_
          refine RQ.ret rfl rfl ?_
          first | (exfalso; omega) | exact ⟨rfl, rfl⟩
  · skip
    refine RQ.seg 1 (pc' := 5) (L' := [some (.ref 0), some (.int (iI s)), some (.int (iI w)), some (.int (iI v)), none, none]) (st' := [.int (iI w)]) (g1 := (HW sc ar tx oc rl ou tl, q)) rfl ?_
    refine RQ.if1 (a := w) rfl rfl rfl (by omega) (fun (h12 : w < 0) => ?_) (fun (h12 : ¬ w < 0) => ?_)
    · skip
      refine RQ.seg 4 (pc' := 32) (L' := [some (.ref 0), some (.int (iI s)), some (.int (iI w)), some (.int (iI v)), some (.int (iI 0)), none]) (st' := [.int (iI 1), .int (iI s)]) (g1 := (HW sc ar tx oc rl ou tl, q)) rfl ?_
      refine RQ.if2 (a := s) (b := 1) rfl rfl rfl rfl (by omega) (by omega) (fun (h13 : s ≠ 1) => ?_) (fun (h13 : ¬ s ≠ 1) => ?_)
      · skip
        refine RQ.seg 4 (pc' := 64) (L' := [some (.ref 0), some (.int (iI s)), some (.int (iI w)), some (.int (iI v)), some (.int (iI 0)), some (.int (iI 0))]) (st' := [.ref 3]) (g1 := (HW sc ar tx oc rl ou tl, q)) rfl ?_
        rcases Decidable.em (0 < nb) with h14 | h14
        · skip
          refine RQ.call rfl rfl (x_standsN_t hX hF h14) ?_
          refine RQ.seg 6 (pc' := 93) (L' := [some (.ref 0), some (.int (iI s)), some (.int (iI w)), some (.int (iI v)), some (.int (iI 0)), some (.int (iI 0))]) (st' := [.int (iI (-1))]) (g1 := (HW sc ar tx oc rl ou tl, q)) rfl ?_
          refine RQ.ret rfl rfl ?_
          first | (exfalso; omega) | exact ⟨rfl, rfl⟩
        · skip
          refine RQ.call rfl rfl (x_standsN_f hX hF h14) ?_
          refine RQ.seg 2 (pc' := 93) (L' := [some (.ref 0), some (.int (iI s)), some (.int (iI w)), some (.int (iI v)), some (.int (iI 0)), some (.int (iI 0))]) (st' := [.int (iI (-1))]) (g1 := (HW sc ar tx oc rl ou tl, q)) rfl ?_
          refine RQ.ret rfl rfl ?_
          first | (exfalso; omega) | exact ⟨rfl, rfl⟩
      · skip
        refine RQ.seg 2 (pc' := 37) (L' := [some (.ref 0), some (.int (iI s)), some (.int (iI w)), some (.int (iI v)), some (.int (iI 0)), none]) (st' := [.int (iI w), .ref 0]) (g1 := (HW sc ar tx oc rl ou tl, q)) rfl ?_
        rcases Decidable.em (0 ≤ w ∧ w < nw) with h15 | h15
        · skip
          refine RQ.call rfl rfl (x_isWiN_t (by omega) hX hF h15) ?_
          refine RQ.seg 2 (pc' := 44) (L' := [some (.ref 0), some (.int (iI s)), some (.int (iI w)), some (.int (iI v)), some (.int (iI 0)), none]) (st' := [.int (iI v)]) (g1 := (HW sc ar tx oc rl ou tl, q)) rfl ?_
          refine RQ.if1 (a := v) rfl rfl rfl (by omega) (fun (h16 : v < 0) => ?_) (fun (h16 : ¬ v < 0) => ?_)
          · skip
            refine RQ.seg 4 (pc' := 64) (L' := [some (.ref 0), some (.int (iI s)), some (.int (iI w)), some (.int (iI v)), some (.int (iI 0)), some (.int (iI 0))]) (st' := [.ref 3]) (g1 := (HW sc ar tx oc rl ou tl, q)) rfl ?_
            rcases Decidable.em (0 < nb) with h17 | h17
            · skip
              refine RQ.call rfl rfl (x_standsN_t hX hF h17) ?_
              refine RQ.seg 6 (pc' := 93) (L' := [some (.ref 0), some (.int (iI s)), some (.int (iI w)), some (.int (iI v)), some (.int (iI 0)), some (.int (iI 0))]) (st' := [.int (iI (-1))]) (g1 := (HW sc ar tx oc rl ou tl, q)) rfl ?_
              refine RQ.ret rfl rfl ?_
              first | (exfalso; omega) | exact ⟨rfl, rfl⟩
            · skip
              refine RQ.call rfl rfl (x_standsN_f hX hF h17) ?_
              refine RQ.seg 2 (pc' := 93) (L' := [some (.ref 0), some (.int (iI s)), some (.int (iI w)), some (.int (iI v)), some (.int (iI 0)), some (.int (iI 0))]) (st' := [.int (iI (-1))]) (g1 := (HW sc ar tx oc rl ou tl, q)) rfl ?_
              refine RQ.ret rfl rfl ?_
              first | (exfalso; omega) | exact ⟨rfl, rfl⟩
          · skip
            refine RQ.seg 2 (pc' := 50) (L' := [some (.ref 0), some (.int (iI s)), some (.int (iI w)), some (.int (iI v)), some (.int (iI 0)), none]) (st' := [.int (iI 9), .int (iI v)]) (g1 := (HW sc ar tx oc rl ou tl, q)) rfl ?_
            refine RQ.if2 (a := v) (b := 9) rfl rfl rfl rfl (by omega) (by omega) (fun (h18 : 9 < v) => ?_) (fun (h18 : ¬ 9 < v) => ?_)
            · skip
              refine RQ.seg 4 (pc' := 64) (L' := [some (.ref 0), some (.int (iI s)), some (.int (iI w)), some (.int (iI v)), some (.int (iI 0)), some (.int (iI 0))]) (st' := [.ref 3]) (g1 := (HW sc ar tx oc rl ou tl, q)) rfl ?_
              rcases Decidable.em (0 < nb) with h19 | h19
              · skip
                refine RQ.call rfl rfl (x_standsN_t hX hF h19) ?_
                refine RQ.seg 6 (pc' := 93) (L' := [some (.ref 0), some (.int (iI s)), some (.int (iI w)), some (.int (iI v)), some (.int (iI 0)), some (.int (iI 0))]) (st' := [.int (iI (-1))]) (g1 := (HW sc ar tx oc rl ou tl, q)) rfl ?_
                refine RQ.ret rfl rfl ?_
                first | (exfalso; omega) | exact ⟨rfl, rfl⟩
              · skip
                refine RQ.call rfl rfl (x_standsN_f hX hF h19) ?_
                refine RQ.seg 2 (pc' := 93) (L' := [some (.ref 0), some (.int (iI s)), some (.int (iI w)), some (.int (iI v)), some (.int (iI 0)), some (.int (iI 0))]) (st' := [.int (iI (-1))]) (g1 := (HW sc ar tx oc rl ou tl, q)) rfl ?_
                refine RQ.ret rfl rfl ?_
                first | (exfalso; omega) | exact ⟨rfl, rfl⟩
            · skip
              refine RQ.seg 5 (pc' := 64) (L' := [some (.ref 0), some (.int (iI s)), some (.int (iI w)), some (.int (iI v)), some (.int (iI 0)), some (.int (iI 1))]) (st' := [.ref 3]) (g1 := (HW sc ar tx oc rl ou tl, q)) rfl ?_
              rcases Decidable.em (0 < nb) with h20 | h20
              · skip
                refine RQ.call rfl rfl (x_standsN_t hX hF h20) ?_
                refine RQ.seg 9 (pc' := 89) (L' := [some (.ref 0), some (.int (iI s)), some (.int (iI w)), some (.int (iI v)), some (.int (iI 0)), some (.int (iI 1))]) (st' := [.int (iI 10), .int (iI (sc 3105))]) (g1 := (HW sc ar tx oc rl ou tl, q)) rfl ?_
                refine RQ.if2 (a := (sc 3105)) (b := 10) rfl rfl rfl rfl (by omega) (by omega) (fun (h21 : sc 3105 < 10) => ?_) (fun (h21 : ¬ sc 3105 < 10) => ?_)
                · skip
                  refine RQ.seg 5 (pc' := 101) (L' := [some (.ref 0), some (.int (iI s)), some (.int (iI w)), some (.int (iI v)), some (.int (iI 0)), some (.int (iI 1))]) (st' := [.int (iI v), .int (iI w), .int (iI s), .ref 31]) (g1 := (HW sc ar tx oc rl ou tl, q)) rfl ?_
                  refine RQ.call rfl rfl (x_addAsh (by omega)) ?_
                  refine RQ.seg 2 (pc' := 108) (L' := [some (.ref 0), some (.int (iI s)), some (.int (iI w)), some (.int (iI v)), some (.int (iI 0)), some (.int (iI 1))]) (st' := [.ref 77]) (g1 := (HW (usc sc 3105 (sc 3105 + 1)) (usc (usc (usc ar 34 (usz (ar 34) (sc 3105) s)) 35 (usz (ar 35) (sc 3105) w)) 36 (usz (ar 36) (sc 3105) v)) tx oc rl ou tl, q)) rfl ?_
                  refine RQ.call rfl rfl x_eforget ?_
                  refine RQ.seg 3 (pc' := 118) (L' := [some (.ref 0), some (.int (iI s)), some (.int (iI w)), some (.int (iI v)), some (.int (iI 0)), some (.int (iI 1))]) (st' := [.int (iI (sc 3105 + 1))]) (g1 := (HW (usc (usc sc 3105 (sc 3105 + 1)) 7703 0) (usc (usc (usc ar 34 (usz (ar 34) (sc 3105) s)) 35 (usz (ar 35) (sc 3105) w)) 36 (usz (ar 36) (sc 3105) v)) tx oc rl ou tl, q)) rfl ?_
                  refine RQ.ret rfl rfl ?_
                  first | (exfalso; omega) | exact ⟨rfl, rfl⟩
                · skip
                  refine RQ.seg 1 (pc' := 93) (L' := [some (.ref 0), some (.int (iI s)), some (.int (iI w)), some (.int (iI v)), some (.int (iI 0)), some (.int (iI 1))]) (st' := [.int (iI (-1))]) (g1 := (HW sc ar tx oc rl ou tl, q)) rfl ?_
                  refine RQ.ret rfl rfl ?_
                  first | (exfalso; omega) | exact ⟨rfl, rfl⟩
              · skip
                refine RQ.call rfl rfl (x_standsN_f hX hF h20) ?_
                refine RQ.seg 2 (pc' := 93) (L' := [some (.ref 0), some (.int (iI s)), some (.int (iI w)), some (.int (iI v)), some (.int (iI 0)), some (.int (iI 1))]) (st' := [.int (iI (-1))]) (g1 := (HW sc ar tx oc rl ou tl, q)) rfl ?_
                refine RQ.ret rfl rfl ?_
                first | (exfalso; omega) | exact ⟨rfl, rfl⟩
        · skip
          refine RQ.call rfl rfl (x_isWiN_f (by omega) hX hF h15) ?_
          refine RQ.seg 5 (pc' := 64) (L' := [some (.ref 0), some (.int (iI s)), some (.int (iI w)), some (.int (iI v)), some (.int (iI 0)), some (.int (iI 0))]) (st' := [.ref 3]) (g1 := (HW sc ar tx oc rl ou tl, q)) rfl ?_
          rcases Decidable.em (0 < nb) with h22 | h22
          · skip
            refine RQ.call rfl rfl (x_standsN_t hX hF h22) ?_
            refine RQ.seg 6 (pc' := 93) (L' := [some (.ref 0), some (.int (iI s)), some (.int (iI w)), some (.int (iI v)), some (.int (iI 0)), some (.int (iI 0))]) (st' := [.int (iI (-1))]) (g1 := (HW sc ar tx oc rl ou tl, q)) rfl ?_
            refine RQ.ret rfl rfl ?_
            first | (exfalso; omega) | exact ⟨rfl, rfl⟩
          · skip
            refine RQ.call rfl rfl (x_standsN_f hX hF h22) ?_
            refine RQ.seg 2 (pc' := 93) (L' := [some (.ref 0), some (.int (iI s)), some (.int (iI w)), some (.int (iI v)), some (.int (iI 0)), some (.int (iI 0))]) (st' := [.int (iI (-1))]) (g1 := (HW sc ar tx oc rl ou tl, q)) rfl ?_
            refine RQ.ret rfl rfl ?_
            first | (exfalso; omega) | exact ⟨rfl, rfl⟩
    · skip
      refine RQ.seg 2 (pc' := 11) (L' := [some (.ref 0), some (.int (iI s)), some (.int (iI w)), some (.int (iI v)), none, none]) (st' := [.int (iI 6), .int (iI w)]) (g1 := (HW sc ar tx oc rl ou tl, q)) rfl ?_
      refine RQ.if2 (a := w) (b := 6) rfl rfl rfl rfl (by omega) (by omega) (fun (h23 : 6 ≤ w) => ?_) (fun (h23 : ¬ 6 ≤ w) => ?_)
      · skip
        refine RQ.seg 4 (pc' := 32) (L' := [some (.ref 0), some (.int (iI s)), some (.int (iI w)), some (.int (iI v)), some (.int (iI 0)), none]) (st' := [.int (iI 1), .int (iI s)]) (g1 := (HW sc ar tx oc rl ou tl, q)) rfl ?_
        refine RQ.if2 (a := s) (b := 1) rfl rfl rfl rfl (by omega) (by omega) (fun (h24 : s ≠ 1) => ?_) (fun (h24 : ¬ s ≠ 1) => ?_)
        · skip
          refine RQ.seg 4 (pc' := 64) (L' := [some (.ref 0), some (.int (iI s)), some (.int (iI w)), some (.int (iI v)), some (.int (iI 0)), some (.int (iI 0))]) (st' := [.ref 3]) (g1 := (HW sc ar tx oc rl ou tl, q)) rfl ?_
          rcases Decidable.em (0 < nb) with h25 | h25
          · skip
            refine RQ.call rfl rfl (x_standsN_t hX hF h25) ?_
            refine RQ.seg 6 (pc' := 93) (L' := [some (.ref 0), some (.int (iI s)), some (.int (iI w)), some (.int (iI v)), some (.int (iI 0)), some (.int (iI 0))]) (st' := [.int (iI (-1))]) (g1 := (HW sc ar tx oc rl ou tl, q)) rfl ?_
            refine RQ.ret rfl rfl ?_
            first | (exfalso; omega) | exact ⟨rfl, rfl⟩
          · skip
            refine RQ.call rfl rfl (x_standsN_f hX hF h25) ?_
            refine RQ.seg 2 (pc' := 93) (L' := [some (.ref 0), some (.int (iI s)), some (.int (iI w)), some (.int (iI v)), some (.int (iI 0)), some (.int (iI 0))]) (st' := [.int (iI (-1))]) (g1 := (HW sc ar tx oc rl ou tl, q)) rfl ?_
            refine RQ.ret rfl rfl ?_
            first | (exfalso; omega) | exact ⟨rfl, rfl⟩
        · skip
          refine RQ.seg 2 (pc' := 37) (L' := [some (.ref 0), some (.int (iI s)), some (.int (iI w)), some (.int (iI v)), some (.int (iI 0)), none]) (st' := [.int (iI w), .ref 0]) (g1 := (HW sc ar tx oc rl ou tl, q)) rfl ?_
          rcases Decidable.em (0 ≤ w ∧ w < nw) with h26 | h26
          · skip
            refine RQ.call rfl rfl (x_isWiN_t (by omega) hX hF h26) ?_
            refine RQ.seg 2 (pc' := 44) (L' := [some (.ref 0), some (.int (iI s)), some (.int (iI w)), some (.int (iI v)), some (.int (iI 0)), none]) (st' := [.int (iI v)]) (g1 := (HW sc ar tx oc rl ou tl, q)) rfl ?_
            refine RQ.if1 (a := v) rfl rfl rfl (by omega) (fun (h27 : v < 0) => ?_) (fun (h27 : ¬ v < 0) => ?_)
            · skip
              refine RQ.seg 4 (pc' := 64) (L' := [some (.ref 0), some (.int (iI s)), some (.int (iI w)), some (.int (iI v)), some (.int (iI 0)), some (.int (iI 0))]) (st' := [.ref 3]) (g1 := (HW sc ar tx oc rl ou tl, q)) rfl ?_
              rcases Decidable.em (0 < nb) with h28 | h28
              · skip
                refine RQ.call rfl rfl (x_standsN_t hX hF h28) ?_
                refine RQ.seg 6 (pc' := 93) (L' := [some (.ref 0), some (.int (iI s)), some (.int (iI w)), some (.int (iI v)), some (.int (iI 0)), some (.int (iI 0))]) (st' := [.int (iI (-1))]) (g1 := (HW sc ar tx oc rl ou tl, q)) rfl ?_
                refine RQ.ret rfl rfl ?_
                first | (exfalso; omega) | exact ⟨rfl, rfl⟩
              · skip
                refine RQ.call rfl rfl (x_standsN_f hX hF h28) ?_
                refine RQ.seg 2 (pc' := 93) (L' := [some (.ref 0), some (.int (iI s)), some (.int (iI w)), some (.int (iI v)), some (.int (iI 0)), some (.int (iI 0))]) (st' := [.int (iI (-1))]) (g1 := (HW sc ar tx oc rl ou tl, q)) rfl ?_
                refine RQ.ret rfl rfl ?_
                first | (exfalso; omega) | exact ⟨rfl, rfl⟩
            · skip
              refine RQ.seg 2 (pc' := 50) (L' := [some (.ref 0), some (.int (iI s)), some (.int (iI w)), some (.int (iI v)), some (.int (iI 0)), none]) (st' := [.int (iI 9), .int (iI v)]) (g1 := (HW sc ar tx oc rl ou tl, q)) rfl ?_
              refine RQ.if2 (a := v) (b := 9) rfl rfl rfl rfl (by omega) (by omega) (fun (h29 : 9 < v) => ?_) (fun (h29 : ¬ 9 < v) => ?_)
              · skip
                refine RQ.seg 4 (pc' := 64) (L' := [some (.ref 0), some (.int (iI s)), some (.int (iI w)), some (.int (iI v)), some (.int (iI 0)), some (.int (iI 0))]) (st' := [.ref 3]) (g1 := (HW sc ar tx oc rl ou tl, q)) rfl ?_
                rcases Decidable.em (0 < nb) with h30 | h30
                · skip
                  refine RQ.call rfl rfl (x_standsN_t hX hF h30) ?_
                  refine RQ.seg 6 (pc' := 93) (L' := [some (.ref 0), some (.int (iI s)), some (.int (iI w)), some (.int (iI v)), some (.int (iI 0)), some (.int (iI 0))]) (st' := [.int (iI (-1))]) (g1 := (HW sc ar tx oc rl ou tl, q)) rfl ?_
                  refine RQ.ret rfl rfl ?_
                  first | (exfalso; omega) | exact ⟨rfl, rfl⟩
                · skip
                  refine RQ.call rfl rfl (x_standsN_f hX hF h30) ?_
                  refine RQ.seg 2 (pc' := 93) (L' := [some (.ref 0), some (.int (iI s)), some (.int (iI w)), some (.int (iI v)), some (.int (iI 0)), some (.int (iI 0))]) (st' := [.int (iI (-1))]) (g1 := (HW sc ar tx oc rl ou tl, q)) rfl ?_
                  refine RQ.ret rfl rfl ?_
                  first | (exfalso; omega) | exact ⟨rfl, rfl⟩
              · skip
                refine RQ.seg 5 (pc' := 64) (L' := [some (.ref 0), some (.int (iI s)), some (.int (iI w)), some (.int (iI v)), some (.int (iI 0)), some (.int (iI 1))]) (st' := [.ref 3]) (g1 := (HW sc ar tx oc rl ou tl, q)) rfl ?_
                rcases Decidable.em (0 < nb) with h31 | h31
                · skip
                  refine RQ.call rfl rfl (x_standsN_t hX hF h31) ?_
                  refine RQ.seg 9 (pc' := 89) (L' := [some (.ref 0), some (.int (iI s)), some (.int (iI w)), some (.int (iI v)), some (.int (iI 0)), some (.int (iI 1))]) (st' := [.int (iI 10), .int (iI (sc 3105))]) (g1 := (HW sc ar tx oc rl ou tl, q)) rfl ?_
                  refine RQ.if2 (a := (sc 3105)) (b := 10) rfl rfl rfl rfl (by omega) (by omega) (fun (h32 : sc 3105 < 10) => ?_) (fun (h32 : ¬ sc 3105 < 10) => ?_)
                  · skip
                    refine RQ.seg 5 (pc' := 101) (L' := [some (.ref 0), some (.int (iI s)), some (.int (iI w)), some (.int (iI v)), some (.int (iI 0)), some (.int (iI 1))]) (st' := [.int (iI v), .int (iI w), .int (iI s), .ref 31]) (g1 := (HW sc ar tx oc rl ou tl, q)) rfl ?_
                    refine RQ.call rfl rfl (x_addAsh (by omega)) ?_
                    refine RQ.seg 2 (pc' := 108) (L' := [some (.ref 0), some (.int (iI s)), some (.int (iI w)), some (.int (iI v)), some (.int (iI 0)), some (.int (iI 1))]) (st' := [.ref 77]) (g1 := (HW (usc sc 3105 (sc 3105 + 1)) (usc (usc (usc ar 34 (usz (ar 34) (sc 3105) s)) 35 (usz (ar 35) (sc 3105) w)) 36 (usz (ar 36) (sc 3105) v)) tx oc rl ou tl, q)) rfl ?_
                    refine RQ.call rfl rfl x_eforget ?_
                    refine RQ.seg 3 (pc' := 118) (L' := [some (.ref 0), some (.int (iI s)), some (.int (iI w)), some (.int (iI v)), some (.int (iI 0)), some (.int (iI 1))]) (st' := [.int (iI (sc 3105 + 1))]) (g1 := (HW (usc (usc sc 3105 (sc 3105 + 1)) 7703 0) (usc (usc (usc ar 34 (usz (ar 34) (sc 3105) s)) 35 (usz (ar 35) (sc 3105) w)) 36 (usz (ar 36) (sc 3105) v)) tx oc rl ou tl, q)) rfl ?_
                    refine RQ.ret rfl rfl ?_
                    first | (exfalso; omega) | exact ⟨rfl, rfl⟩
                  · skip
                    refine RQ.seg 1 (pc' := 93) (L' := [some (.ref 0), some (.int (iI s)), some (.int (iI w)), some (.int (iI v)), some (.int (iI 0)), some (.int (iI 1))]) (st' := [.int (iI (-1))]) (g1 := (HW sc ar tx oc rl ou tl, q)) rfl ?_
                    refine RQ.ret rfl rfl ?_
                    first | (exfalso; omega) | exact ⟨rfl, rfl⟩
                · skip
                  refine RQ.call rfl rfl (x_standsN_f hX hF h31) ?_
                  refine RQ.seg 2 (pc' := 93) (L' := [some (.ref 0), some (.int (iI s)), some (.int (iI w)), some (.int (iI v)), some (.int (iI 0)), some (.int (iI 1))]) (st' := [.int (iI (-1))]) (g1 := (HW sc ar tx oc rl ou tl, q)) rfl ?_
                  refine RQ.ret rfl rfl ?_
                  first | (exfalso; omega) | exact ⟨rfl, rfl⟩
          · skip
            refine RQ.call rfl rfl (x_isWiN_f (by omega) hX hF h26) ?_
            refine RQ.seg 5 (pc' := 64) (L' := [some (.ref 0), some (.int (iI s)), some (.int (iI w)), some (.int (iI v)), some (.int (iI 0)), some (.int (iI 0))]) (st' := [.ref 3]) (g1 := (HW sc ar tx oc rl ou tl, q)) rfl ?_
            rcases Decidable.em (0 < nb) with h33 | h33
            · skip
              refine RQ.call rfl rfl (x_standsN_t hX hF h33) ?_
              refine RQ.seg 6 (pc' := 93) (L' := [some (.ref 0), some (.int (iI s)), some (.int (iI w)), some (.int (iI v)), some (.int (iI 0)), some (.int (iI 0))]) (st' := [.int (iI (-1))]) (g1 := (HW sc ar tx oc rl ou tl, q)) rfl ?_
              refine RQ.ret rfl rfl ?_
              first | (exfalso; omega) | exact ⟨rfl, rfl⟩
            · skip
              refine RQ.call rfl rfl (x_standsN_f hX hF h33) ?_
              refine RQ.seg 2 (pc' := 93) (L' := [some (.ref 0), some (.int (iI s)), some (.int (iI w)), some (.int (iI v)), some (.int (iI 0)), some (.int (iI 0))]) (st' := [.int (iI (-1))]) (g1 := (HW sc ar tx oc rl ou tl, q)) rfl ?_
              refine RQ.ret rfl rfl ?_
              first | (exfalso; omega) | exact ⟨rfl, rfl⟩
      · skip
        refine RQ.seg 1 (pc' := 15) (L' := [some (.ref 0), some (.int (iI s)), some (.int (iI w)), some (.int (iI v)), none, none]) (st' := [.int (iI v)]) (g1 := (HW sc ar tx oc rl ou tl, q)) rfl ?_
        refine RQ.if1 (a := v) rfl rfl rfl (by omega) (fun (h34 : v < 0) => ?_) (fun (h34 : ¬ v < 0) => ?_)
        · skip
          refine RQ.seg 4 (pc' := 32) (L' := [some (.ref 0), some (.int (iI s)), some (.int (iI w)), some (.int (iI v)), some (.int (iI 0)), none]) (st' := [.int (iI 1), .int (iI s)]) (g1 := (HW sc ar tx oc rl ou tl, q)) rfl ?_
          refine RQ.if2 (a := s) (b := 1) rfl rfl rfl rfl (by omega) (by omega) (fun (h35 : s ≠ 1) => ?_) (fun (h35 : ¬ s ≠ 1) => ?_)
          · skip
            refine RQ.seg 4 (pc' := 64) (L' := [some (.ref 0), some (.int (iI s)), some (.int (iI w)), some (.int (iI v)), some (.int (iI 0)), some (.int (iI 0))]) (st' := [.ref 3]) (g1 := (HW sc ar tx oc rl ou tl, q)) rfl ?_
            rcases Decidable.em (0 < nb) with h36 | h36
            · skip
              refine RQ.call rfl rfl (x_standsN_t hX hF h36) ?_
              refine RQ.seg 6 (pc' := 93) (L' := [some (.ref 0), some (.int (iI s)), some (.int (iI w)), some (.int (iI v)), some (.int (iI 0)), some (.int (iI 0))]) (st' := [.int (iI (-1))]) (g1 := (HW sc ar tx oc rl ou tl, q)) rfl ?_
              refine RQ.ret rfl rfl ?_
              first | (exfalso; omega) | exact ⟨rfl, rfl⟩
            · skip
              refine RQ.call rfl rfl (x_standsN_f hX hF h36) ?_
              refine RQ.seg 2 (pc' := 93) (L' := [some (.ref 0), some (.int (iI s)), some (.int (iI w)), some (.int (iI v)), some (.int (iI 0)), some (.int (iI 0))]) (st' := [.int (iI (-1))]) (g1 := (HW sc ar tx oc rl ou tl, q)) rfl ?_
              refine RQ.ret rfl rfl ?_
              first | (exfalso; omega) | exact ⟨rfl, rfl⟩
          · skip
            refine RQ.seg 2 (pc' := 37) (L' := [some (.ref 0), some (.int (iI s)), some (.int (iI w)), some (.int (iI v)), some (.int (iI 0)), none]) (st' := [.int (iI w), .ref 0]) (g1 := (HW sc ar tx oc rl ou tl, q)) rfl ?_
            rcases Decidable.em (0 ≤ w ∧ w < nw) with h37 | h37
            · skip
              refine RQ.call rfl rfl (x_isWiN_t (by omega) hX hF h37) ?_
              refine RQ.seg 2 (pc' := 44) (L' := [some (.ref 0), some (.int (iI s)), some (.int (iI w)), some (.int (iI v)), some (.int (iI 0)), none]) (st' := [.int (iI v)]) (g1 := (HW sc ar tx oc rl ou tl, q)) rfl ?_
              refine RQ.if1 (a := v) rfl rfl rfl (by omega) (fun (h38 : v < 0) => ?_) (fun (h38 : ¬ v < 0) => ?_)
              · skip
                refine RQ.seg 4 (pc' := 64) (L' := [some (.ref 0), some (.int (iI s)), some (.int (iI w)), some (.int (iI v)), some (.int (iI 0)), some (.int (iI 0))]) (st' := [.ref 3]) (g1 := (HW sc ar tx oc rl ou tl, q)) rfl ?_
                rcases Decidable.em (0 < nb) with h39 | h39
                · skip
                  refine RQ.call rfl rfl (x_standsN_t hX hF h39) ?_
                  refine RQ.seg 6 (pc' := 93) (L' := [some (.ref 0), some (.int (iI s)), some (.int (iI w)), some (.int (iI v)), some (.int (iI 0)), some (.int (iI 0))]) (st' := [.int (iI (-1))]) (g1 := (HW sc ar tx oc rl ou tl, q)) rfl ?_
                  refine RQ.ret rfl rfl ?_
                  first | (exfalso; omega) | exact ⟨rfl, rfl⟩
                · skip
                  refine RQ.call rfl rfl (x_standsN_f hX hF h39) ?_
                  refine RQ.seg 2 (pc' := 93) (L' := [some (.ref 0), some (.int (iI s)), some (.int (iI w)), some (.int (iI v)), some (.int (iI 0)), some (.int (iI 0))]) (st' := [.int (iI (-1))]) (g1 := (HW sc ar tx oc rl ou tl, q)) rfl ?_
                  refine RQ.ret rfl rfl ?_
                  first | (exfalso; omega) | exact ⟨rfl, rfl⟩
              · skip
                refine RQ.seg 2 (pc' := 50) (L' := [some (.ref 0), some (.int (iI s)), some (.int (iI w)), some (.int (iI v)), some (.int (iI 0)), none]) (st' := [.int (iI 9), .int (iI v)]) (g1 := (HW sc ar tx oc rl ou tl, q)) rfl ?_
                refine RQ.if2 (a := v) (b := 9) rfl rfl rfl rfl (by omega) (by omega) (fun (h40 : 9 < v) => ?_) (fun (h40 : ¬ 9 < v) => ?_)
                · skip
                  refine RQ.seg 4 (pc' := 64) (L' := [some (.ref 0), some (.int (iI s)), some (.int (iI w)), some (.int (iI v)), some (.int (iI 0)), some (.int (iI 0))]) (st' := [.ref 3]) (g1 := (HW sc ar tx oc rl ou tl, q)) rfl ?_
                  rcases Decidable.em (0 < nb) with h41 | h41
                  · skip
                    refine RQ.call rfl rfl (x_standsN_t hX hF h41) ?_
                    refine RQ.seg 6 (pc' := 93) (L' := [some (.ref 0), some (.int (iI s)), some (.int (iI w)), some (.int (iI v)), some (.int (iI 0)), some (.int (iI 0))]) (st' := [.int (iI (-1))]) (g1 := (HW sc ar tx oc rl ou tl, q)) rfl ?_
                    refine RQ.ret rfl rfl ?_
                    first | (exfalso; omega) | exact ⟨rfl, rfl⟩
                  · skip
                    refine RQ.call rfl rfl (x_standsN_f hX hF h41) ?_
                    refine RQ.seg 2 (pc' := 93) (L' := [some (.ref 0), some (.int (iI s)), some (.int (iI w)), some (.int (iI v)), some (.int (iI 0)), some (.int (iI 0))]) (st' := [.int (iI (-1))]) (g1 := (HW sc ar tx oc rl ou tl, q)) rfl ?_
                    refine RQ.ret rfl rfl ?_
                    first | (exfalso; omega) | exact ⟨rfl, rfl⟩
                · skip
                  refine RQ.seg 5 (pc' := 64) (L' := [some (.ref 0), some (.int (iI s)), some (.int (iI w)), some (.int (iI v)), some (.int (iI 0)), some (.int (iI 1))]) (st' := [.ref 3]) (g1 := (HW sc ar tx oc rl ou tl, q)) rfl ?_
                  rcases Decidable.em (0 < nb) with h42 | h42
                  · skip
                    refine RQ.call rfl rfl (x_standsN_t hX hF h42) ?_
                    refine RQ.seg 9 (pc' := 89) (L' := [some (.ref 0), some (.int (iI s)), some (.int (iI w)), some (.int (iI v)), some (.int (iI 0)), some (.int (iI 1))]) (st' := [.int (iI 10), .int (iI (sc 3105))]) (g1 := (HW sc ar tx oc rl ou tl, q)) rfl ?_
                    refine RQ.if2 (a := (sc 3105)) (b := 10) rfl rfl rfl rfl (by omega) (by omega) (fun (h43 : sc 3105 < 10) => ?_) (fun (h43 : ¬ sc 3105 < 10) => ?_)
                    · skip
                      refine RQ.seg 5 (pc' := 101) (L' := [some (.ref 0), some (.int (iI s)), some (.int (iI w)), some (.int (iI v)), some (.int (iI 0)), some (.int (iI 1))]) (st' := [.int (iI v), .int (iI w), .int (iI s), .ref 31]) (g1 := (HW sc ar tx oc rl ou tl, q)) rfl ?_
                      refine RQ.call rfl rfl (x_addAsh (by omega)) ?_
                      refine RQ.seg 2 (pc' := 108) (L' := [some (.ref 0), some (.int (iI s)), some (.int (iI w)), some (.int (iI v)), some (.int (iI 0)), some (.int (iI 1))]) (st' := [.ref 77]) (g1 := (HW (usc sc 3105 (sc 3105 + 1)) (usc (usc (usc ar 34 (usz (ar 34) (sc 3105) s)) 35 (usz (ar 35) (sc 3105) w)) 36 (usz (ar 36) (sc 3105) v)) tx oc rl ou tl, q)) rfl ?_
                      refine RQ.call rfl rfl x_eforget ?_
                      refine RQ.seg 3 (pc' := 118) (L' := [some (.ref 0), some (.int (iI s)), some (.int (iI w)), some (.int (iI v)), some (.int (iI 0)), some (.int (iI 1))]) (st' := [.int (iI (sc 3105 + 1))]) (g1 := (HW (usc (usc sc 3105 (sc 3105 + 1)) 7703 0) (usc (usc (usc ar 34 (usz (ar 34) (sc 3105) s)) 35 (usz (ar 35) (sc 3105) w)) 36 (usz (ar 36) (sc 3105) v)) tx oc rl ou tl, q)) rfl ?_
                      refine RQ.ret rfl rfl ?_
                      first | (exfalso; omega) | exact ⟨rfl, rfl⟩
                    · skip
                      refine RQ.seg 1 (pc' := 93) (L' := [some (.ref 0), some (.int (iI s)), some (.int (iI w)), some (.int (iI v)), some (.int (iI 0)), some (.int (iI 1))]) (st' := [.int (iI (-1))]) (g1 := (HW sc ar tx oc rl ou tl, q)) rfl ?_
                      refine RQ.ret rfl rfl ?_
                      first | (exfalso; omega) | exact ⟨rfl, rfl⟩
                  · skip
                    refine RQ.call rfl rfl (x_standsN_f hX hF h42) ?_
                    refine RQ.seg 2 (pc' := 93) (L' := [some (.ref 0), some (.int (iI s)), some (.int (iI w)), some (.int (iI v)), some (.int (iI 0)), some (.int (iI 1))]) (st' := [.int (iI (-1))]) (g1 := (HW sc ar tx oc rl ou tl, q)) rfl ?_
                    refine RQ.ret rfl rfl ?_
                    first | (exfalso; omega) | exact ⟨rfl, rfl⟩
            · skip
              refine RQ.call rfl rfl (x_isWiN_f (by omega) hX hF h37) ?_
              refine RQ.seg 5 (pc' := 64) (L' := [some (.ref 0), some (.int (iI s)), some (.int (iI w)), some (.int (iI v)), some (.int (iI 0)), some (.int (iI 0))]) (st' := [.ref 3]) (g1 := (HW sc ar tx oc rl ou tl, q)) rfl ?_
              rcases Decidable.em (0 < nb) with h44 | h44
              · skip
                refine RQ.call rfl rfl (x_standsN_t hX hF h44) ?_
                refine RQ.seg 6 (pc' := 93) (L' := [some (.ref 0), some (.int (iI s)), some (.int (iI w)), some (.int (iI v)), some (.int (iI 0)), some (.int (iI 0))]) (st' := [.int (iI (-1))]) (g1 := (HW sc ar tx oc rl ou tl, q)) rfl ?_
                refine RQ.ret rfl rfl ?_
                first | (exfalso; omega) | exact ⟨rfl, rfl⟩
              · skip
                refine RQ.call rfl rfl (x_standsN_f hX hF h44) ?_
                refine RQ.seg 2 (pc' := 93) (L' := [some (.ref 0), some (.int (iI s)), some (.int (iI w)), some (.int (iI v)), some (.int (iI 0)), some (.int (iI 0))]) (st' := [.int (iI (-1))]) (g1 := (HW sc ar tx oc rl ou tl, q)) rfl ?_
                refine RQ.ret rfl rfl ?_
                first | (exfalso; omega) | exact ⟨rfl, rfl⟩
        · skip
          refine RQ.seg 2 (pc' := 20) (L' := [some (.ref 0), some (.int (iI s)), some (.int (iI w)), some (.int (iI v)), none, none]) (st' := [.int (iI 1), .int (iI v)]) (g1 := (HW sc ar tx oc rl ou tl, q)) rfl ?_
          refine RQ.if2 (a := v) (b := 1) rfl rfl rfl rfl (by omega) (by omega) (fun (h45 : 1 < v) => ?_) (fun (h45 : ¬ 1 < v) => ?_)
          · skip
            refine RQ.seg 4 (pc' := 32) (L' := [some (.ref 0), some (.int (iI s)), some (.int (iI w)), some (.int (iI v)), some (.int (iI 0)), none]) (st' := [.int (iI 1), .int (iI s)]) (g1 := (HW sc ar tx oc rl ou tl, q)) rfl ?_
            refine RQ.if2 (a := s) (b := 1) rfl rfl rfl rfl (by omega) (by omega) (fun (h46 : s ≠ 1) => ?_) (fun (h46 : ¬ s ≠ 1) => ?_)
            · skip
              refine RQ.seg 4 (pc' := 64) (L' := [some (.ref 0), some (.int (iI s)), some (.int (iI w)), some (.int (iI v)), some (.int (iI 0)), some (.int (iI 0))]) (st' := [.ref 3]) (g1 := (HW sc ar tx oc rl ou tl, q)) rfl ?_
              rcases Decidable.em (0 < nb) with h47 | h47
              · skip
                refine RQ.call rfl rfl (x_standsN_t hX hF h47) ?_
                refine RQ.seg 6 (pc' := 93) (L' := [some (.ref 0), some (.int (iI s)), some (.int (iI w)), some (.int (iI v)), some (.int (iI 0)), some (.int (iI 0))]) (st' := [.int (iI (-1))]) (g1 := (HW sc ar tx oc rl ou tl, q)) rfl ?_
                refine RQ.ret rfl rfl ?_
                first | (exfalso; omega) | exact ⟨rfl, rfl⟩
              · skip
                refine RQ.call rfl rfl (x_standsN_f hX hF h47) ?_
                refine RQ.seg 2 (pc' := 93) (L' := [some (.ref 0), some (.int (iI s)), some (.int (iI w)), some (.int (iI v)), some (.int (iI 0)), some (.int (iI 0))]) (st' := [.int (iI (-1))]) (g1 := (HW sc ar tx oc rl ou tl, q)) rfl ?_
                refine RQ.ret rfl rfl ?_
                first | (exfalso; omega) | exact ⟨rfl, rfl⟩
            · skip
              refine RQ.seg 2 (pc' := 37) (L' := [some (.ref 0), some (.int (iI s)), some (.int (iI w)), some (.int (iI v)), some (.int (iI 0)), none]) (st' := [.int (iI w), .ref 0]) (g1 := (HW sc ar tx oc rl ou tl, q)) rfl ?_
              rcases Decidable.em (0 ≤ w ∧ w < nw) with h48 | h48
              · skip
                refine RQ.call rfl rfl (x_isWiN_t (by omega) hX hF h48) ?_
                refine RQ.seg 2 (pc' := 44) (L' := [some (.ref 0), some (.int (iI s)), some (.int (iI w)), some (.int (iI v)), some (.int (iI 0)), none]) (st' := [.int (iI v)]) (g1 := (HW sc ar tx oc rl ou tl, q)) rfl ?_
                refine RQ.if1 (a := v) rfl rfl rfl (by omega) (fun (h49 : v < 0) => ?_) (fun (h49 : ¬ v < 0) => ?_)
                · skip
                  refine RQ.seg 4 (pc' := 64) (L' := [some (.ref 0), some (.int (iI s)), some (.int (iI w)), some (.int (iI v)), some (.int (iI 0)), some (.int (iI 0))]) (st' := [.ref 3]) (g1 := (HW sc ar tx oc rl ou tl, q)) rfl ?_
                  rcases Decidable.em (0 < nb) with h50 | h50
                  · skip
                    refine RQ.call rfl rfl (x_standsN_t hX hF h50) ?_
                    refine RQ.seg 6 (pc' := 93) (L' := [some (.ref 0), some (.int (iI s)), some (.int (iI w)), some (.int (iI v)), some (.int (iI 0)), some (.int (iI 0))]) (st' := [.int (iI (-1))]) (g1 := (HW sc ar tx oc rl ou tl, q)) rfl ?_
                    refine RQ.ret rfl rfl ?_
                    first | (exfalso; omega) | exact ⟨rfl, rfl⟩
                  · skip
                    refine RQ.call rfl rfl (x_standsN_f hX hF h50) ?_
                    refine RQ.seg 2 (pc' := 93) (L' := [some (.ref 0), some (.int (iI s)), some (.int (iI w)), some (.int (iI v)), some (.int (iI 0)), some (.int (iI 0))]) (st' := [.int (iI (-1))]) (g1 := (HW sc ar tx oc rl ou tl, q)) rfl ?_
                    refine RQ.ret rfl rfl ?_
                    first | (exfalso; omega) | exact ⟨rfl, rfl⟩
                · skip
                  refine RQ.seg 2 (pc' := 50) (L' := [some (.ref 0), some (.int (iI s)), some (.int (iI w)), some (.int (iI v)), some (.int (iI 0)), none]) (st' := [.int (iI 9), .int (iI v)]) (g1 := (HW sc ar tx oc rl ou tl, q)) rfl ?_
                  refine RQ.if2 (a := v) (b := 9) rfl rfl rfl rfl (by omega) (by omega) (fun (h51 : 9 < v) => ?_) (fun (h51 : ¬ 9 < v) => ?_)
                  · skip
                    refine RQ.seg 4 (pc' := 64) (L' := [some (.ref 0), some (.int (iI s)), some (.int (iI w)), some (.int (iI v)), some (.int (iI 0)), some (.int (iI 0))]) (st' := [.ref 3]) (g1 := (HW sc ar tx oc rl ou tl, q)) rfl ?_
                    rcases Decidable.em (0 < nb) with h52 | h52
                    · skip
                      refine RQ.call rfl rfl (x_standsN_t hX hF h52) ?_
                      refine RQ.seg 6 (pc' := 93) (L' := [some (.ref 0), some (.int (iI s)), some (.int (iI w)), some (.int (iI v)), some (.int (iI 0)), some (.int (iI 0))]) (st' := [.int (iI (-1))]) (g1 := (HW sc ar tx oc rl ou tl, q)) rfl ?_
                      refine RQ.ret rfl rfl ?_
                      first | (exfalso; omega) | exact ⟨rfl, rfl⟩
                    · skip
                      refine RQ.call rfl rfl (x_standsN_f hX hF h52) ?_
                      refine RQ.seg 2 (pc' := 93) (L' := [some (.ref 0), some (.int (iI s)), some (.int (iI w)), some (.int (iI v)), some (.int (iI 0)), some (.int (iI 0))]) (st' := [.int (iI (-1))]) (g1 := (HW sc ar tx oc rl ou tl, q)) rfl ?_
                      refine RQ.ret rfl rfl ?_
                      first | (exfalso; omega) | exact ⟨rfl, rfl⟩
                  · skip
                    refine RQ.seg 5 (pc' := 64) (L' := [some (.ref 0), some (.int (iI s)), some (.int (iI w)), some (.int (iI v)), some (.int (iI 0)), some (.int (iI 1))]) (st' := [.ref 3]) (g1 := (HW sc ar tx oc rl ou tl, q)) rfl ?_
                    rcases Decidable.em (0 < nb) with h53 | h53
                    · skip
                      refine RQ.call rfl rfl (x_standsN_t hX hF h53) ?_
                      refine RQ.seg 9 (pc' := 89) (L' := [some (.ref 0), some (.int (iI s)), some (.int (iI w)), some (.int (iI v)), some (.int (iI 0)), some (.int (iI 1))]) (st' := [.int (iI 10), .int (iI (sc 3105))]) (g1 := (HW sc ar tx oc rl ou tl, q)) rfl ?_
                      refine RQ.if2 (a := (sc 3105)) (b := 10) rfl rfl rfl rfl (by omega) (by omega) (fun (h54 : sc 3105 < 10) => ?_) (fun (h54 : ¬ sc 3105 < 10) => ?_)
                      · skip
                        refine RQ.seg 5 (pc' := 101) (L' := [some (.ref 0), some (.int (iI s)), some (.int (iI w)), some (.int (iI v)), some (.int (iI 0)), some (.int (iI 1))]) (st' := [.int (iI v), .int (iI w), .int (iI s), .ref 31]) (g1 := (HW sc ar tx oc rl ou tl, q)) rfl ?_
                        refine RQ.call rfl rfl (x_addAsh (by omega)) ?_
                        refine RQ.seg 2 (pc' := 108) (L' := [some (.ref 0), some (.int (iI s)), some (.int (iI w)), some (.int (iI v)), some (.int (iI 0)), some (.int (iI 1))]) (st' := [.ref 77]) (g1 := (HW (usc sc 3105 (sc 3105 + 1)) (usc (usc (usc ar 34 (usz (ar 34) (sc 3105) s)) 35 (usz (ar 35) (sc 3105) w)) 36 (usz (ar 36) (sc 3105) v)) tx oc rl ou tl, q)) rfl ?_
                        refine RQ.call rfl rfl x_eforget ?_
                        refine RQ.seg 3 (pc' := 118) (L' := [some (.ref 0), some (.int (iI s)), some (.int (iI w)), some (.int (iI v)), some (.int (iI 0)), some (.int (iI 1))]) (st' := [.int (iI (sc 3105 + 1))]) (g1 := (HW (usc (usc sc 3105 (sc 3105 + 1)) 7703 0) (usc (usc (usc ar 34 (usz (ar 34) (sc 3105) s)) 35 (usz (ar 35) (sc 3105) w)) 36 (usz (ar 36) (sc 3105) v)) tx oc rl ou tl, q)) rfl ?_
                        refine RQ.ret rfl rfl ?_
                        first | (exfalso; omega) | exact ⟨rfl, rfl⟩
                      · skip
                        refine RQ.seg 1 (pc' := 93) (L' := [some (.ref 0), some (.int (iI s)), some (.int (iI w)), some (.int (iI v)), some (.int (iI 0)), some (.int (iI 1))]) (st' := [.int (iI (-1))]) (g1 := (HW sc ar tx oc rl ou tl, q)) rfl ?_
                        refine RQ.ret rfl rfl ?_
                        first | (exfalso; omega) | exact ⟨rfl, rfl⟩
                    · skip
                      refine RQ.call rfl rfl (x_standsN_f hX hF h53) ?_
                      refine RQ.seg 2 (pc' := 93) (L' := [some (.ref 0), some (.int (iI s)), some (.int (iI w)), some (.int (iI v)), some (.int (iI 0)), some (.int (iI 1))]) (st' := [.int (iI (-1))]) (g1 := (HW sc ar tx oc rl ou tl, q)) rfl ?_
                      refine RQ.ret rfl rfl ?_
                      first | (exfalso; omega) | exact ⟨rfl, rfl⟩
              · skip
                refine RQ.call rfl rfl (x_isWiN_f (by omega) hX hF h48) ?_
                refine RQ.seg 5 (pc' := 64) (L' := [some (.ref 0), some (.int (iI s)), some (.int (iI w)), some (.int (iI v)), some (.int (iI 0)), some (.int (iI 0))]) (st' := [.ref 3]) (g1 := (HW sc ar tx oc rl ou tl, q)) rfl ?_
                rcases Decidable.em (0 < nb) with h55 | h55
                · skip
                  refine RQ.call rfl rfl (x_standsN_t hX hF h55) ?_
                  refine RQ.seg 6 (pc' := 93) (L' := [some (.ref 0), some (.int (iI s)), some (.int (iI w)), some (.int (iI v)), some (.int (iI 0)), some (.int (iI 0))]) (st' := [.int (iI (-1))]) (g1 := (HW sc ar tx oc rl ou tl, q)) rfl ?_
                  refine RQ.ret rfl rfl ?_
                  first | (exfalso; omega) | exact ⟨rfl, rfl⟩
                · skip
                  refine RQ.call rfl rfl (x_standsN_f hX hF h55) ?_
                  refine RQ.seg 2 (pc' := 93) (L' := [some (.ref 0), some (.int (iI s)), some (.int (iI w)), some (.int (iI v)), some (.int (iI 0)), some (.int (iI 0))]) (st' := [.int (iI (-1))]) (g1 := (HW sc ar tx oc rl ou tl, q)) rfl ?_
                  refine RQ.ret rfl rfl ?_
                  first | (exfalso; omega) | exact ⟨rfl, rfl⟩
          · skip
            refine RQ.seg 5 (pc' := 32) (L' := [some (.ref 0), some (.int (iI s)), some (.int (iI w)), some (.int (iI v)), some (.int (iI 1)), none]) (st' := [.int (iI 1), .int (iI s)]) (g1 := (HW sc ar tx oc rl ou tl, q)) rfl ?_
            refine RQ.if2 (a := s) (b := 1) rfl rfl rfl rfl (by omega) (by omega) (fun (h56 : s ≠ 1) => ?_) (fun (h56 : ¬ s ≠ 1) => ?_)
            · skip
              refine RQ.seg 4 (pc' := 64) (L' := [some (.ref 0), some (.int (iI s)), some (.int (iI w)), some (.int (iI v)), some (.int (iI 1)), some (.int (iI 0))]) (st' := [.ref 3]) (g1 := (HW sc ar tx oc rl ou tl, q)) rfl ?_
              rcases Decidable.em (0 < nb) with h57 | h57
              · skip
                refine RQ.call rfl rfl (x_standsN_t hX hF h57) ?_
                refine RQ.seg 7 (pc' := 89) (L' := [some (.ref 0), some (.int (iI s)), some (.int (iI w)), some (.int (iI v)), some (.int (iI 1)), some (.int (iI 0))]) (st' := [.int (iI 10), .int (iI (sc 3105))]) (g1 := (HW sc ar tx oc rl ou tl, q)) rfl ?_
                refine RQ.if2 (a := (sc 3105)) (b := 10) rfl rfl rfl rfl (by omega) (by omega) (fun (h58 : sc 3105 < 10) => ?_) (fun (h58 : ¬ sc 3105 < 10) => ?_)
                · skip
                  refine RQ.seg 5 (pc' := 101) (L' := [some (.ref 0), some (.int (iI s)), some (.int (iI w)), some (.int (iI v)), some (.int (iI 1)), some (.int (iI 0))]) (st' := [.int (iI v), .int (iI w), .int (iI s), .ref 31]) (g1 := (HW sc ar tx oc rl ou tl, q)) rfl ?_
                  refine RQ.call rfl rfl (x_addAsh (by omega)) ?_
                  refine RQ.seg 2 (pc' := 108) (L' := [some (.ref 0), some (.int (iI s)), some (.int (iI w)), some (.int (iI v)), some (.int (iI 1)), some (.int (iI 0))]) (st' := [.ref 77]) (g1 := (HW (usc sc 3105 (sc 3105 + 1)) (usc (usc (usc ar 34 (usz (ar 34) (sc 3105) s)) 35 (usz (ar 35) (sc 3105) w)) 36 (usz (ar 36) (sc 3105) v)) tx oc rl ou tl, q)) rfl ?_
                  refine RQ.call rfl rfl x_eforget ?_
                  refine RQ.seg 3 (pc' := 118) (L' := [some (.ref 0), some (.int (iI s)), some (.int (iI w)), some (.int (iI v)), some (.int (iI 1)), some (.int (iI 0))]) (st' := [.int (iI (sc 3105 + 1))]) (g1 := (HW (usc (usc sc 3105 (sc 3105 + 1)) 7703 0) (usc (usc (usc ar 34 (usz (ar 34) (sc 3105) s)) 35 (usz (ar 35) (sc 3105) w)) 36 (usz (ar 36) (sc 3105) v)) tx oc rl ou tl, q)) rfl ?_
                  refine RQ.ret rfl rfl ?_
                  first | (exfalso; omega) | exact ⟨rfl, rfl⟩
                · skip
                  refine RQ.seg 1 (pc' := 93) (L' := [some (.ref 0), some (.int (iI s)), some (.int (iI w)), some (.int (iI v)), some (.int (iI 1)), some (.int (iI 0))]) (st' := [.int (iI (-1))]) (g1 := (HW sc ar tx oc rl ou tl, q)) rfl ?_
                  refine RQ.ret rfl rfl ?_
                  first | (exfalso; omega) | exact ⟨rfl, rfl⟩
              · skip
                refine RQ.call rfl rfl (x_standsN_f hX hF h57) ?_
                refine RQ.seg 2 (pc' := 93) (L' := [some (.ref 0), some (.int (iI s)), some (.int (iI w)), some (.int (iI v)), some (.int (iI 1)), some (.int (iI 0))]) (st' := [.int (iI (-1))]) (g1 := (HW sc ar tx oc rl ou tl, q)) rfl ?_
                refine RQ.ret rfl rfl ?_
                first | (exfalso; omega) | exact ⟨rfl, rfl⟩
            · skip
              refine RQ.seg 2 (pc' := 37) (L' := [some (.ref 0), some (.int (iI s)), some (.int (iI w)), some (.int (iI v)), some (.int (iI 1)), none]) (st' := [.int (iI w), .ref 0]) (g1 := (HW sc ar tx oc rl ou tl, q)) rfl ?_
              rcases Decidable.em (0 ≤ w ∧ w < nw) with h59 | h59
              · skip
                refine RQ.call rfl rfl (x_isWiN_t (by omega) hX hF h59) ?_
                refine RQ.seg 2 (pc' := 44) (L' := [some (.ref 0), some (.int (iI s)), some (.int (iI w)), some (.int (iI v)), some (.int (iI 1)), none]) (st' := [.int (iI v)]) (g1 := (HW sc ar tx oc rl ou tl, q)) rfl ?_
                refine RQ.if1 (a := v) rfl rfl rfl (by omega) (fun (h60 : v < 0) => ?_) (fun (h60 : ¬ v < 0) => ?_)
                · skip
                  refine RQ.seg 4 (pc' := 64) (L' := [some (.ref 0), some (.int (iI s)), some (.int (iI w)), some (.int (iI v)), some (.int (iI 1)), some (.int (iI 0))]) (st' := [.ref 3]) (g1 := (HW sc ar tx oc rl ou tl, q)) rfl ?_
                  rcases Decidable.em (0 < nb) with h61 | h61
                  · skip
                    refine RQ.call rfl rfl (x_standsN_t hX hF h61) ?_
                    refine RQ.seg 7 (pc' := 89) (L' := [some (.ref 0), some (.int (iI s)), some (.int (iI w)), some (.int (iI v)), some (.int (iI 1)), some (.int (iI 0))]) (st' := [.int (iI 10), .int (iI (sc 3105))]) (g1 := (HW sc ar tx oc rl ou tl, q)) rfl ?_
                    refine RQ.if2 (a := (sc 3105)) (b := 10) rfl rfl rfl rfl (by omega) (by omega) (fun (h62 : sc 3105 < 10) => ?_) (fun (h62 : ¬ sc 3105 < 10) => ?_)
                    · skip
                      refine RQ.seg 5 (pc' := 101) (L' := [some (.ref 0), some (.int (iI s)), some (.int (iI w)), some (.int (iI v)), some (.int (iI 1)), some (.int (iI 0))]) (st' := [.int (iI v), .int (iI w), .int (iI s), .ref 31]) (g1 := (HW sc ar tx oc rl ou tl, q)) rfl ?_
                      refine RQ.call rfl rfl (x_addAsh (by omega)) ?_
                      refine RQ.seg 2 (pc' := 108) (L' := [some (.ref 0), some (.int (iI s)), some (.int (iI w)), some (.int (iI v)), some (.int (iI 1)), some (.int (iI 0))]) (st' := [.ref 77]) (g1 := (HW (usc sc 3105 (sc 3105 + 1)) (usc (usc (usc ar 34 (usz (ar 34) (sc 3105) s)) 35 (usz (ar 35) (sc 3105) w)) 36 (usz (ar 36) (sc 3105) v)) tx oc rl ou tl, q)) rfl ?_
                      refine RQ.call rfl rfl x_eforget ?_
                      refine RQ.seg 3 (pc' := 118) (L' := [some (.ref 0), some (.int (iI s)), some (.int (iI w)), some (.int (iI v)), some (.int (iI 1)), some (.int (iI 0))]) (st' := [.int (iI (sc 3105 + 1))]) (g1 := (HW (usc (usc sc 3105 (sc 3105 + 1)) 7703 0) (usc (usc (usc ar 34 (usz (ar 34) (sc 3105) s)) 35 (usz (ar 35) (sc 3105) w)) 36 (usz (ar 36) (sc 3105) v)) tx oc rl ou tl, q)) rfl ?_
                      refine RQ.ret rfl rfl ?_
                      first | (exfalso; omega) | exact ⟨rfl, rfl⟩
                    · skip
                      refine RQ.seg 1 (pc' := 93) (L' := [some (.ref 0), some (.int (iI s)), some (.int (iI w)), some (.int (iI v)), some (.int (iI 1)), some (.int (iI 0))]) (st' := [.int (iI (-1))]) (g1 := (HW sc ar tx oc rl ou tl, q)) rfl ?_
                      refine RQ.ret rfl rfl ?_
                      first | (exfalso; omega) | exact ⟨rfl, rfl⟩
                  · skip
                    refine RQ.call rfl rfl (x_standsN_f hX hF h61) ?_
                    refine RQ.seg 2 (pc' := 93) (L' := [some (.ref 0), some (.int (iI s)), some (.int (iI w)), some (.int (iI v)), some (.int (iI 1)), some (.int (iI 0))]) (st' := [.int (iI (-1))]) (g1 := (HW sc ar tx oc rl ou tl, q)) rfl ?_
                    refine RQ.ret rfl rfl ?_
                    first | (exfalso; omega) | exact ⟨rfl, rfl⟩
                · skip
                  refine RQ.seg 2 (pc' := 50) (L' := [some (.ref 0), some (.int (iI s)), some (.int (iI w)), some (.int (iI v)), some (.int (iI 1)), none]) (st' := [.int (iI 9), .int (iI v)]) (g1 := (HW sc ar tx oc rl ou tl, q)) rfl ?_
                  refine RQ.if2 (a := v) (b := 9) rfl rfl rfl rfl (by omega) (by omega) (fun (h63 : 9 < v) => ?_) (fun (h63 : ¬ 9 < v) => ?_)
                  · skip
                    refine RQ.seg 4 (pc' := 64) (L' := [some (.ref 0), some (.int (iI s)), some (.int (iI w)), some (.int (iI v)), some (.int (iI 1)), some (.int (iI 0))]) (st' := [.ref 3]) (g1 := (HW sc ar tx oc rl ou tl, q)) rfl ?_
                    rcases Decidable.em (0 < nb) with h64 | h64
                    · skip
                      refine RQ.call rfl rfl (x_standsN_t hX hF h64) ?_
                      refine RQ.seg 7 (pc' := 89) (L' := [some (.ref 0), some (.int (iI s)), some (.int (iI w)), some (.int (iI v)), some (.int (iI 1)), some (.int (iI 0))]) (st' := [.int (iI 10), .int (iI (sc 3105))]) (g1 := (HW sc ar tx oc rl ou tl, q)) rfl ?_
                      refine RQ.if2 (a := (sc 3105)) (b := 10) rfl rfl rfl rfl (by omega) (by omega) (fun (h65 : sc 3105 < 10) => ?_) (fun (h65 : ¬ sc 3105 < 10) => ?_)
                      · skip
                        refine RQ.seg 5 (pc' := 101) (L' := [some (.ref 0), some (.int (iI s)), some (.int (iI w)), some (.int (iI v)), some (.int (iI 1)), some (.int (iI 0))]) (st' := [.int (iI v), .int (iI w), .int (iI s), .ref 31]) (g1 := (HW sc ar tx oc rl ou tl, q)) rfl ?_
                        refine RQ.call rfl rfl (x_addAsh (by omega)) ?_
                        refine RQ.seg 2 (pc' := 108) (L' := [some (.ref 0), some (.int (iI s)), some (.int (iI w)), some (.int (iI v)), some (.int (iI 1)), some (.int (iI 0))]) (st' := [.ref 77]) (g1 := (HW (usc sc 3105 (sc 3105 + 1)) (usc (usc (usc ar 34 (usz (ar 34) (sc 3105) s)) 35 (usz (ar 35) (sc 3105) w)) 36 (usz (ar 36) (sc 3105) v)) tx oc rl ou tl, q)) rfl ?_
                        refine RQ.call rfl rfl x_eforget ?_
                        refine RQ.seg 3 (pc' := 118) (L' := [some (.ref 0), some (.int (iI s)), some (.int (iI w)), some (.int (iI v)), some (.int (iI 1)), some (.int (iI 0))]) (st' := [.int (iI (sc 3105 + 1))]) (g1 := (HW (usc (usc sc 3105 (sc 3105 + 1)) 7703 0) (usc (usc (usc ar 34 (usz (ar 34) (sc 3105) s)) 35 (usz (ar 35) (sc 3105) w)) 36 (usz (ar 36) (sc 3105) v)) tx oc rl ou tl, q)) rfl ?_
                        refine RQ.ret rfl rfl ?_
                        first | (exfalso; omega) | exact ⟨rfl, rfl⟩
                      · skip
                        refine RQ.seg 1 (pc' := 93) (L' := [some (.ref 0), some (.int (iI s)), some (.int (iI w)), some (.int (iI v)), some (.int (iI 1)), some (.int (iI 0))]) (st' := [.int (iI (-1))]) (g1 := (HW sc ar tx oc rl ou tl, q)) rfl ?_
                        refine RQ.ret rfl rfl ?_
                        first | (exfalso; omega) | exact ⟨rfl, rfl⟩
                    · skip
                      refine RQ.call rfl rfl (x_standsN_f hX hF h64) ?_
                      refine RQ.seg 2 (pc' := 93) (L' := [some (.ref 0), some (.int (iI s)), some (.int (iI w)), some (.int (iI v)), some (.int (iI 1)), some (.int (iI 0))]) (st' := [.int (iI (-1))]) (g1 := (HW sc ar tx oc rl ou tl, q)) rfl ?_
                      refine RQ.ret rfl rfl ?_
                      first | (exfalso; omega) | exact ⟨rfl, rfl⟩
                  · skip
                    refine RQ.seg 5 (pc' := 64) (L' := [some (.ref 0), some (.int (iI s)), some (.int (iI w)), some (.int (iI v)), some (.int (iI 1)), some (.int (iI 1))]) (st' := [.ref 3]) (g1 := (HW sc ar tx oc rl ou tl, q)) rfl ?_
                    rcases Decidable.em (0 < nb) with h66 | h66
                    · skip
                      refine RQ.call rfl rfl (x_standsN_t hX hF h66) ?_
                      refine RQ.seg 7 (pc' := 89) (L' := [some (.ref 0), some (.int (iI s)), some (.int (iI w)), some (.int (iI v)), some (.int (iI 1)), some (.int (iI 1))]) (st' := [.int (iI 10), .int (iI (sc 3105))]) (g1 := (HW sc ar tx oc rl ou tl, q)) rfl ?_
                      refine RQ.if2 (a := (sc 3105)) (b := 10) rfl rfl rfl rfl (by omega) (by omega) (fun (h67 : sc 3105 < 10) => ?_) (fun (h67 : ¬ sc 3105 < 10) => ?_)
                      · skip
                        refine RQ.seg 5 (pc' := 101) (L' := [some (.ref 0), some (.int (iI s)), some (.int (iI w)), some (.int (iI v)), some (.int (iI 1)), some (.int (iI 1))]) (st' := [.int (iI v), .int (iI w), .int (iI s), .ref 31]) (g1 := (HW sc ar tx oc rl ou tl, q)) rfl ?_
                        refine RQ.call rfl rfl (x_addAsh (by omega)) ?_
                        refine RQ.seg 2 (pc' := 108) (L' := [some (.ref 0), some (.int (iI s)), some (.int (iI w)), some (.int (iI v)), some (.int (iI 1)), some (.int (iI 1))]) (st' := [.ref 77]) (g1 := (HW (usc sc 3105 (sc 3105 + 1)) (usc (usc (usc ar 34 (usz (ar 34) (sc 3105) s)) 35 (usz (ar 35) (sc 3105) w)) 36 (usz (ar 36) (sc 3105) v)) tx oc rl ou tl, q)) rfl ?_
                        refine RQ.call rfl rfl x_eforget ?_
                        refine RQ.seg 3 (pc' := 118) (L' := [some (.ref 0), some (.int (iI s)), some (.int (iI w)), some (.int (iI v)), some (.int (iI 1)), some (.int (iI 1))]) (st' := [.int (iI (sc 3105 + 1))]) (g1 := (HW (usc (usc sc 3105 (sc 3105 + 1)) 7703 0) (usc (usc (usc ar 34 (usz (ar 34) (sc 3105) s)) 35 (usz (ar 35) (sc 3105) w)) 36 (usz (ar 36) (sc 3105) v)) tx oc rl ou tl, q)) rfl ?_
                        refine RQ.ret rfl rfl ?_
                        first | (exfalso; omega) | exact ⟨rfl, rfl⟩
                      · skip
                        refine RQ.seg 1 (pc' := 93) (L' := [some (.ref 0), some (.int (iI s)), some (.int (iI w)), some (.int (iI v)), some (.int (iI 1)), some (.int (iI 1))]) (st' := [.int (iI (-1))]) (g1 := (HW sc ar tx oc rl ou tl, q)) rfl ?_
                        refine RQ.ret rfl rfl ?_
                        first | (exfalso; omega) | exact ⟨rfl, rfl⟩
                    · skip
                      refine RQ.call rfl rfl (x_standsN_f hX hF h66) ?_
                      refine RQ.seg 2 (pc' := 93) (L' := [some (.ref 0), some (.int (iI s)), some (.int (iI w)), some (.int (iI v)), some (.int (iI 1)), some (.int (iI 1))]) (st' := [.int (iI (-1))]) (g1 := (HW sc ar tx oc rl ou tl, q)) rfl ?_
                      refine RQ.ret rfl rfl ?_
                      first | (exfalso; omega) | exact ⟨rfl, rfl⟩
              · skip
                refine RQ.call rfl rfl (x_isWiN_f (by omega) hX hF h59) ?_
                refine RQ.seg 5 (pc' := 64) (L' := [some (.ref 0), some (.int (iI s)), some (.int (iI w)), some (.int (iI v)), some (.int (iI 1)), some (.int (iI 0))]) (st' := [.ref 3]) (g1 := (HW sc ar tx oc rl ou tl, q)) rfl ?_
                rcases Decidable.em (0 < nb) with h68 | h68
                · skip
                  refine RQ.call rfl rfl (x_standsN_t hX hF h68) ?_
                  refine RQ.seg 7 (pc' := 89) (L' := [some (.ref 0), some (.int (iI s)), some (.int (iI w)), some (.int (iI v)), some (.int (iI 1)), some (.int (iI 0))]) (st' := [.int (iI 10), .int (iI (sc 3105))]) (g1 := (HW sc ar tx oc rl ou tl, q)) rfl ?_
                  refine RQ.if2 (a := (sc 3105)) (b := 10) rfl rfl rfl rfl (by omega) (by omega) (fun (h69 : sc 3105 < 10) => ?_) (fun (h69 : ¬ sc 3105 < 10) => ?_)
                  · skip
                    refine RQ.seg 5 (pc' := 101) (L' := [some (.ref 0), some (.int (iI s)), some (.int (iI w)), some (.int (iI v)), some (.int (iI 1)), some (.int (iI 0))]) (st' := [.int (iI v), .int (iI w), .int (iI s), .ref 31]) (g1 := (HW sc ar tx oc rl ou tl, q)) rfl ?_
                    refine RQ.call rfl rfl (x_addAsh (by omega)) ?_
                    refine RQ.seg 2 (pc' := 108) (L' := [some (.ref 0), some (.int (iI s)), some (.int (iI w)), some (.int (iI v)), some (.int (iI 1)), some (.int (iI 0))]) (st' := [.ref 77]) (g1 := (HW (usc sc 3105 (sc 3105 + 1)) (usc (usc (usc ar 34 (usz (ar 34) (sc 3105) s)) 35 (usz (ar 35) (sc 3105) w)) 36 (usz (ar 36) (sc 3105) v)) tx oc rl ou tl, q)) rfl ?_
                    refine RQ.call rfl rfl x_eforget ?_
                    refine RQ.seg 3 (pc' := 118) (L' := [some (.ref 0), some (.int (iI s)), some (.int (iI w)), some (.int (iI v)), some (.int (iI 1)), some (.int (iI 0))]) (st' := [.int (iI (sc 3105 + 1))]) (g1 := (HW (usc (usc sc 3105 (sc 3105 + 1)) 7703 0) (usc (usc (usc ar 34 (usz (ar 34) (sc 3105) s)) 35 (usz (ar 35) (sc 3105) w)) 36 (usz (ar 36) (sc 3105) v)) tx oc rl ou tl, q)) rfl ?_
                    refine RQ.ret rfl rfl ?_
                    first | (exfalso; omega) | exact ⟨rfl, rfl⟩
                  · skip
                    refine RQ.seg 1 (pc' := 93) (L' := [some (.ref 0), some (.int (iI s)), some (.int (iI w)), some (.int (iI v)), some (.int (iI 1)), some (.int (iI 0))]) (st' := [.int (iI (-1))]) (g1 := (HW sc ar tx oc rl ou tl, q)) rfl ?_
                    refine RQ.ret rfl rfl ?_
                    first | (exfalso; omega) | exact ⟨rfl, rfl⟩
                · skip
                  refine RQ.call rfl rfl (x_standsN_f hX hF h68) ?_
                  refine RQ.seg 2 (pc' := 93) (L' := [some (.ref 0), some (.int (iI s)), some (.int (iI w)), some (.int (iI v)), some (.int (iI 1)), some (.int (iI 0))]) (st' := [.int (iI (-1))]) (g1 := (HW sc ar tx oc rl ou tl, q)) rfl ?_
                  refine RQ.ret rfl rfl ?_
                  first | (exfalso; omega) | exact ⟨rfl, rfl⟩
theorem x_ash_f {K : PK} {d : Nat} {sc : Nat → Int} {ar : Nat → Int → Int} {tx oc : Nat} {rl : Nat → Option Nat} {ou : Nat → Int64} {tl : List PO} {q : Nat × Nat} {s w v : Int} {nw nb : Int} {W B : Int → Int → Int} (hF : FrOK nw nb W B) (hX : FrX (sc 303) (sc 304) (ar 5) (ar 6) (ar 7) (ar 8) (ar 10) (ar 11) (ar 12) nw nb W B) (hn1 : 0 ≤ sc 3105 ∧ sc 3105 ≤ 10) (rs : -2147483648 ≤ s ∧ s < 2147483648) (rw : -2147483648 ≤ w ∧ w < 2147483648) (rv : -2147483648 ≤ v ∧ v < 2147483648) (hc : ¬ (0 < nb ∧ sc 3105 < 10 ∧ ((s = 0 ∧ (0 ≤ w ∧ w < 6) ∧ (0 ≤ v ∧ v ≤ 1)) ∨ (s = 1 ∧ (0 ≤ w ∧ w < nw) ∧ (0 ≤ v ∧ v ≤ 9))))) : CallR K (d + 2) 125 [.ref 0, .int (iI s), .int (iI w), .int (iI v)] (HW sc ar tx oc rl ou tl, q) (some (.int (iI (-1)))) (HW sc ar tx oc rl ou tl, q) := by
  apply CQ.x
  have hn := hF.1
  have hm1 := hX.1
  have hm2 := hX.2.1
  refine CQ.of (own := 10) (n := 6) (ini := false) (rt := (some .int)) (cd := cd125) (by decide +kernel) rfl (by decide +kernel) rfl (Nat.le_of_ble_eq_true rfl) ?_
  refine RQ.seg 1 (pc' := 1) (L' := [some (.ref 0), some (.int (iI s)), some (.int (iI w)), some (.int (iI v)), none, none]) (st' := [.int (iI s)]) (g1 := (HW sc ar tx oc rl ou tl, q)) rfl ?_
  refine RQ.if1 (a := s) rfl rfl rfl (by omega) (fun (h1 : s ≠ 0) => ?_) (fun (h1 : ¬ s ≠ 0) => ?_)
  · skip
    refine RQ.seg 4 (pc' := 32) (L' := [some (.ref 0), some (.int (iI s)), some (.int (iI w)), some (.int (iI v)), some (.int (iI 0)), none]) (st' := [.int (iI 1), .int (iI s)]) (g1 := (HW sc ar tx oc rl ou tl, q)) rfl ?_
    refine RQ.if2 (a := s) (b := 1) rfl rfl rfl rfl (by omega) (by omega) (fun (h2 : s ≠ 1) => ?_) (fun (h2 : ¬ s ≠ 1) => ?_)
    · skip
      refine RQ.seg 4 (pc' := 64) (L' := [some (.ref 0), some (.int (iI s)), some (.int (iI w)), some (.int (iI v)), some (.int (iI 0)), some (.int (iI 0))]) (st' := [.ref 3]) (g1 := (HW sc ar tx oc rl ou tl, q)) rfl ?_
      rcases Decidable.em (0 < nb) with h3 | h3
      · skip
        refine RQ.call rfl rfl (x_standsN_t hX hF h3) ?_
        refine RQ.seg 6 (pc' := 93) (L' := [some (.ref 0), some (.int (iI s)), some (.int (iI w)), some (.int (iI v)), some (.int (iI 0)), some (.int (iI 0))]) (st' := [.int (iI (-1))]) (g1 := (HW sc ar tx oc rl ou tl, q)) rfl ?_
        refine RQ.ret rfl rfl ?_
        first | (exfalso; omega) | exact ⟨rfl, rfl⟩
      · skip
        refine RQ.call rfl rfl (x_standsN_f hX hF h3) ?_
        refine RQ.seg 2 (pc' := 93) (L' := [some (.ref 0), some (.int (iI s)), some (.int (iI w)), some (.int (iI v)), some (.int (iI 0)), some (.int (iI 0))]) (st' := [.int (iI (-1))]) (g1 := (HW sc ar tx oc rl ou tl, q)) rfl ?_
        refine RQ.ret rfl rfl ?_
        first | (exfalso; omega) | exact ⟨rfl, rfl⟩
    · skip
      refine RQ.seg 2 (pc' := 37) (L' := [some (.ref 0), some (.int (iI s)), some (.int (iI w)), some (.int (iI v)), some (.int (iI 0)), none]) (st' := [.int (iI w), .ref 0]) (g1 := (HW sc ar tx oc rl ou tl, q)) rfl ?_
      rcases Decidable.em (0 ≤ w ∧ w < nw) with h4 | h4
      · skip
        refine RQ.call rfl rfl (x_isWiN_t (by omega) hX hF h4) ?_
        refine RQ.seg 2 (pc' := 44) (L' := [some (.ref 0), some (.int (iI s)), some (.int (iI w)), some (.int (iI v)), some (.int (iI 0)), none]) (st' := [.int (iI v)]) (g1 := (HW sc ar tx oc rl ou tl, q)) rfl ?_
        refine RQ.if1 (a := v) rfl rfl rfl (by omega) (fun (h5 : v < 0) => ?_) (fun (h5 : ¬ v < 0) => ?_)
        · skip
          refine RQ.seg 4 (pc' := 64) (L' := [some (.ref 0), some (.int (iI s)), some (.int (iI w)), some (.int (iI v)), some (.int (iI 0)), some (.int (iI 0))]) (st' := [.ref 3]) (g1 := (HW sc ar tx oc rl ou tl, q)) rfl ?_
          rcases Decidable.em (0 < nb) with h6 | h6
          · skip
            refine RQ.call rfl rfl (x_standsN_t hX hF h6) ?_
            refine RQ.seg 6 (pc' := 93) (L' := [some (.ref 0), some (.int (iI s)), some (.int (iI w)), some (.int (iI v)), some (.int (iI 0)), some (.int (iI 0))]) (st' := [.int (iI (-1))]) (g1 := (HW sc ar tx oc rl ou tl, q)) rfl ?_
            refine RQ.ret rfl rfl ?_
            first | (exfalso; omega) | exact ⟨rfl, rfl⟩
          · skip
            refine RQ.call rfl rfl (x_standsN_f hX hF h6) ?_
            refine RQ.seg 2 (pc' := 93) (L' := [some (.ref 0), some (.int (iI s)), some (.int (iI w)), some (.int (iI v)), some (.int (iI 0)), some (.int (iI 0))]) (st' := [.int (iI (-1))]) (g1 := (HW sc ar tx oc rl ou tl, q)) rfl ?_
            refine RQ.ret rfl rfl ?_
            first | (exfalso; omega) | exact ⟨rfl, rfl⟩
        · skip
          refine RQ.seg 2 (pc' := 50) (L' := [some (.ref 0), some (.int (iI s)), some (.int (iI w)), some (.int (iI v)), some (.int (iI 0)), none]) (st' := [.int (iI 9), .int (iI v)]) (g1 := (HW sc ar tx oc rl ou tl, q)) rfl ?_
          refine RQ.if2 (a := v) (b := 9) rfl rfl rfl rfl (by omega) (by omega) (fun (h7 : 9 < v) => ?_) (fun (h7 : ¬ 9 < v) => ?_)
          · skip
            refine RQ.seg 4 (pc' := 64) (L' := [some (.ref 0), some (.int (iI s)), some (.int (iI w)), some (.int (iI v)), some (.int (iI 0)), some (.int (iI 0))]) (st' := [.ref 3]) (g1 := (HW sc ar tx oc rl ou tl, q)) rfl ?_
            rcases Decidable.em (0 < nb) with h8 | h8
            · skip
              refine RQ.call rfl rfl (x_standsN_t hX hF h8) ?_
              refine RQ.seg 6 (pc' := 93) (L' := [some (.ref 0), some (.int (iI s)), some (.int (iI w)), some (.int (iI v)), some (.int (iI 0)), some (.int (iI 0))]) (st' := [.int (iI (-1))]) (g1 := (HW sc ar tx oc rl ou tl, q)) rfl ?_
              refine RQ.ret rfl rfl ?_
              first | (exfalso; omega) | exact ⟨rfl, rfl⟩
            · skip
              refine RQ.call rfl rfl (x_standsN_f hX hF h8) ?_
              refine RQ.seg 2 (pc' := 93) (L' := [some (.ref 0), some (.int (iI s)), some (.int (iI w)), some (.int (iI v)), some (.int (iI 0)), some (.int (iI 0))]) (st' := [.int (iI (-1))]) (g1 := (HW sc ar tx oc rl ou tl, q)) rfl ?_
              refine RQ.ret rfl rfl ?_
              first | (exfalso; omega) | exact ⟨rfl, rfl⟩
          · skip
            refine RQ.seg 5 (pc' := 64) (L' := [some (.ref 0), some (.int (iI s)), some (.int (iI w)), some (.int (iI v)), some (.int (iI 0)), some (.int (iI 1))]) (st' := [.ref 3]) (g1 := (HW sc ar tx oc rl ou tl, q)) rfl ?_
            rcases Decidable.em (0 < nb) with h9 | h9
            · skip
              refine RQ.call rfl rfl (x_standsN_t hX hF h9) ?_
              refine RQ.seg 9 (pc' := 89) (L' := [some (.ref 0), some (.int (iI s)), some (.int (iI w)), some (.int (iI v)), some (.int (iI 0)), some (.int (iI 1))]) (st' := [.int (iI 10), .int (iI (sc 3105))]) (g1 := (HW sc ar tx oc rl ou tl, q)) rfl ?_
              refine RQ.if2 (a := (sc 3105)) (b := 10) rfl rfl rfl rfl (by omega) (by omega) (fun (h10 : sc 3105 < 10) => ?_) (fun (h10 : ¬ sc 3105 < 10) => ?_)
              · skip
                refine RQ.seg 5 (pc' := 101) (L' := [some (.ref 0), some (.int (iI s)), some (.int (iI w)), some (.int (iI v)), some (.int (iI 0)), some (.int (iI 1))]) (st' := [.int (iI v), .int (iI w), .int (iI s), .ref 31]) (g1 := (HW sc ar tx oc rl ou tl, q)) rfl ?_
                refine RQ.call rfl rfl (x_addAsh (by omega)) ?_
                refine RQ.seg 2 (pc' := 108) (L' := [some (.ref 0), some (.int (iI s)), some (.int (iI w)), some (.int (iI v)), some (.int (iI 0)), some (.int (iI 1))]) (st' := [.ref 77]) (g1 := (HW (usc sc 3105 (sc 3105 + 1)) (usc (usc (usc ar 34 (usz (ar 34) (sc 3105) s)) 35 (usz (ar 35) (sc 3105) w)) 36 (usz (ar 36) (sc 3105) v)) tx oc rl ou tl, q)) rfl ?_
                refine RQ.call rfl rfl x_eforget ?_
                refine RQ.seg 3 (pc' := 118) (L' := [some (.ref 0), some (.int (iI s)), some (.int (iI w)), some (.int (iI v)), some (.int (iI 0)), some (.int (iI 1))]) (st' := [.int (iI (sc 3105 + 1))]) (g1 := (HW (usc (usc sc 3105 (sc 3105 + 1)) 7703 0) (usc (usc (usc ar 34 (usz (ar 34) (sc 3105) s)) 35 (usz (ar 35) (sc 3105) w)) 36 (usz (ar 36) (sc 3105) v)) tx oc rl ou tl, q)) rfl ?_
                refine RQ.ret rfl rfl ?_
                first | (exfalso; omega) | exact ⟨rfl, rfl⟩
              · skip
                refine RQ.seg 1 (pc' := 93) (L' := [some (.ref 0), some (.int (iI s)), some (.int (iI w)), some (.int (iI v)), some (.int (iI 0)), some (.int (iI 1))]) (st' := [.int (iI (-1))]) (g1 := (HW sc ar tx oc rl ou tl, q)) rfl ?_
                refine RQ.ret rfl rfl ?_
                first | (exfalso; omega) | exact ⟨rfl, rfl⟩
            · skip
              refine RQ.call rfl rfl (x_standsN_f hX hF h9) ?_
              refine RQ.seg 2 (pc' := 93) (L' := [some (.ref 0), some (.int (iI s)), some (.int (iI w)), some (.int (iI v)), some (.int (iI 0)), some (.int (iI 1))]) (st' := [.int (iI (-1))]) (g1 := (HW sc ar tx oc rl ou tl, q)) rfl ?_
              refine RQ.ret rfl rfl ?_
              first | (exfalso; omega) | exact ⟨rfl, rfl⟩
      · skip
        refine RQ.call rfl rfl (x_isWiN_f (by omega) hX hF h4) ?_
        refine RQ.seg 5 (pc' := 64) (L' := [some (.ref 0), some (.int (iI s)), some (.int (iI w)), some (.int (iI v)), some (.int (iI 0)), some (.int (iI 0))]) (st' := [.ref 3]) (g1 := (HW sc ar tx oc rl ou tl, q)) rfl ?_
        rcases Decidable.em (0 < nb) with h11 | h11
        · skip
          refine RQ.call rfl rfl (x_standsN_t hX hF h11) ?_
          refine RQ.seg 6 (pc' := 93) (L' := [some (.ref 0), some (.int (iI s)), some (.int (iI w)), some (.int (iI v)), some (.int (iI 0)), some (.int (iI 0))]) (st' := [.int (iI (-1))]) (g1 := (HW sc ar tx oc rl ou tl, q)) rfl ?_
          refine RQ.ret rfl rfl ?_
          first | (exfalso; omega) | exact ⟨rfl, rfl⟩
        · skip
          refine RQ.call rfl rfl (x_standsN_f hX hF h11) ?_
          refine RQ.seg 2 (pc' := 93) (L' := [some (.ref 0), some (.int (iI s)), some (.int (iI w)), some (.int (iI v)), some (.int (iI 0)), some (.int (iI 0))]) (st' := [.int (iI (-1))]) (g1 := (HW sc ar tx oc rl ou tl, q)) rfl ?_
          refine RQ.ret rfl rfl ?_
          first | (exfalso; omega) | exact ⟨rfl, rfl⟩
  · skip
    refine RQ.seg 1 (pc' := 5) (L' := [some (.ref 0), some (.int (iI s)), some (.int (iI w)), some (.int (iI v)), none, none]) (st' := [.int (iI w)]) (g1 := (HW sc ar tx oc rl ou tl, q)) rfl ?_
    refine RQ.if1 (a := w) rfl rfl rfl (by omega) (fun (h12 : w < 0) => ?_) (fun (h12 : ¬ w < 0) => ?_)
    · skip
      refine RQ.seg 4 (pc' := 32) (L' := [some (.ref 0), some (.int (iI s)), some (.int (iI w)), some (.int (iI v)), some (.int (iI 0)), none]) (st' := [.int (iI 1), .int (iI s)]) (g1 := (HW sc ar tx oc rl ou tl, q)) rfl ?_
      refine RQ.if2 (a := s) (b := 1) rfl rfl rfl rfl (by omega) (by omega) (fun (h13 : s ≠ 1) => ?_) (fun (h13 : ¬ s ≠ 1) => ?_)
      · skip
        refine RQ.seg 4 (pc' := 64) (L' := [some (.ref 0), some (.int (iI s)), some (.int (iI w)), some (.int (iI v)), some (.int (iI 0)), some (.int (iI 0))]) (st' := [.ref 3]) (g1 := (HW sc ar tx oc rl ou tl, q)) rfl ?_
        rcases Decidable.em (0 < nb) with h14 | h14
        · skip
          refine RQ.call rfl rfl (x_standsN_t hX hF h14) ?_
          refine RQ.seg 6 (pc' := 93) (L' := [some (.ref 0), some (.int (iI s)), some (.int (iI w)), some (.int (iI v)), some (.int (iI 0)), some (.int (iI 0))]) (st' := [.int (iI (-1))]) (g1 := (HW sc ar tx oc rl ou tl, q)) rfl ?_
          refine RQ.ret rfl rfl ?_
          first | (exfalso; omega) | exact ⟨rfl, rfl⟩
        · skip
          refine RQ.call rfl rfl (x_standsN_f hX hF h14) ?_
          refine RQ.seg 2 (pc' := 93) (L' := [some (.ref 0), some (.int (iI s)), some (.int (iI w)), some (.int (iI v)), some (.int (iI 0)), some (.int (iI 0))]) (st' := [.int (iI (-1))]) (g1 := (HW sc ar tx oc rl ou tl, q)) rfl ?_
          refine RQ.ret rfl rfl ?_
          first | (exfalso; omega) | exact ⟨rfl, rfl⟩
      · skip
        refine RQ.seg 2 (pc' := 37) (L' := [some (.ref 0), some (.int (iI s)), some (.int (iI w)), some (.int (iI v)), some (.int (iI 0)), none]) (st' := [.int (iI w), .ref 0]) (g1 := (HW sc ar tx oc rl ou tl, q)) rfl ?_
        rcases Decidable.em (0 ≤ w ∧ w < nw) with h15 | h15
        · skip
          refine RQ.call rfl rfl (x_isWiN_t (by omega) hX hF h15) ?_
          refine RQ.seg 2 (pc' := 44) (L' := [some (.ref 0), some (.int (iI s)), some (.int (iI w)), some (.int (iI v)), some (.int (iI 0)), none]) (st' := [.int (iI v)]) (g1 := (HW sc ar tx oc rl ou tl, q)) rfl ?_
          refine RQ.if1 (a := v) rfl rfl rfl (by omega) (fun (h16 : v < 0) => ?_) (fun (h16 : ¬ v < 0) => ?_)
          · skip
            refine RQ.seg 4 (pc' := 64) (L' := [some (.ref 0), some (.int (iI s)), some (.int (iI w)), some (.int (iI v)), some (.int (iI 0)), some (.int (iI 0))]) (st' := [.ref 3]) (g1 := (HW sc ar tx oc rl ou tl, q)) rfl ?_
            rcases Decidable.em (0 < nb) with h17 | h17
            · skip
              refine RQ.call rfl rfl (x_standsN_t hX hF h17) ?_
              refine RQ.seg 6 (pc' := 93) (L' := [some (.ref 0), some (.int (iI s)), some (.int (iI w)), some (.int (iI v)), some (.int (iI 0)), some (.int (iI 0))]) (st' := [.int (iI (-1))]) (g1 := (HW sc ar tx oc rl ou tl, q)) rfl ?_
              refine RQ.ret rfl rfl ?_
              first | (exfalso; omega) | exact ⟨rfl, rfl⟩
            · skip
              refine RQ.call rfl rfl (x_standsN_f hX hF h17) ?_
              refine RQ.seg 2 (pc' := 93) (L' := [some (.ref 0), some (.int (iI s)), some (.int (iI w)), some (.int (iI v)), some (.int (iI 0)), some (.int (iI 0))]) (st' := [.int (iI (-1))]) (g1 := (HW sc ar tx oc rl ou tl, q)) rfl ?_
              refine RQ.ret rfl rfl ?_
              first | (exfalso; omega) | exact ⟨rfl, rfl⟩
          · skip
            refine RQ.seg 2 (pc' := 50) (L' := [some (.ref 0), some (.int (iI s)), some (.int (iI w)), some (.int (iI v)), some (.int (iI 0)), none]) (st' := [.int (iI 9), .int (iI v)]) (g1 := (HW sc ar tx oc rl ou tl, q)) rfl ?_
            refine RQ.if2 (a := v) (b := 9) rfl rfl rfl rfl (by omega) (by omega) (fun (h18 : 9 < v) => ?_) (fun (h18 : ¬ 9 < v) => ?_)
            · skip
              refine RQ.seg 4 (pc' := 64) (L' := [some (.ref 0), some (.int (iI s)), some (.int (iI w)), some (.int (iI v)), some (.int (iI 0)), some (.int (iI 0))]) (st' := [.ref 3]) (g1 := (HW sc ar tx oc rl ou tl, q)) rfl ?_
              rcases Decidable.em (0 < nb) with h19 | h19
              · skip
                refine RQ.call rfl rfl (x_standsN_t hX hF h19) ?_
                refine RQ.seg 6 (pc' := 93) (L' := [some (.ref 0), some (.int (iI s)), some (.int (iI w)), some (.int (iI v)), some (.int (iI 0)), some (.int (iI 0))]) (st' := [.int (iI (-1))]) (g1 := (HW sc ar tx oc rl ou tl, q)) rfl ?_
                refine RQ.ret rfl rfl ?_
                first | (exfalso; omega) | exact ⟨rfl, rfl⟩
              · skip
                refine RQ.call rfl rfl (x_standsN_f hX hF h19) ?_
                refine RQ.seg 2 (pc' := 93) (L' := [some (.ref 0), some (.int (iI s)), some (.int (iI w)), some (.int (iI v)), some (.int (iI 0)), some (.int (iI 0))]) (st' := [.int (iI (-1))]) (g1 := (HW sc ar tx oc rl ou tl, q)) rfl ?_
                refine RQ.ret rfl rfl ?_
                first | (exfalso; omega) | exact ⟨rfl, rfl⟩
            · skip
              refine RQ.seg 5 (pc' := 64) (L' := [some (.ref 0), some (.int (iI s)), some (.int (iI w)), some (.int (iI v)), some (.int (iI 0)), some (.int (iI 1))]) (st' := [.ref 3]) (g1 := (HW sc ar tx oc rl ou tl, q)) rfl ?_
              rcases Decidable.em (0 < nb) with h20 | h20
              · skip
                refine RQ.call rfl rfl (x_standsN_t hX hF h20) ?_
                refine RQ.seg 9 (pc' := 89) (L' := [some (.ref 0), some (.int (iI s)), some (.int (iI w)), some (.int (iI v)), some (.int (iI 0)), some (.int (iI 1))]) (st' := [.int (iI 10), .int (iI (sc 3105))]) (g1 := (HW sc ar tx oc rl ou tl, q)) rfl ?_
                refine RQ.if2 (a := (sc 3105)) (b := 10) rfl rfl rfl rfl (by omega) (by omega) (fun (h21 : sc 3105 < 10) => ?_) (fun (h21 : ¬ sc 3105 < 10) => ?_)
                · skip
                  refine RQ.seg 5 (pc' := 101) (L' := [some (.ref 0), some (.int (iI s)), some (.int (iI w)), some (.int (iI v)), some (.int (iI 0)), some (.int (iI 1))]) (st' := [.int (iI v), .int (iI w), .int (iI s), .ref 31]) (g1 := (HW sc ar tx oc rl ou tl, q)) rfl ?_
                  refine RQ.call rfl rfl (x_addAsh (by omega)) ?_
                  refine RQ.seg 2 (pc' := 108) (L' := [some (.ref 0), some (.int (iI s)), some (.int (iI w)), some (.int (iI v)), some (.int (iI 0)), some (.int (iI 1))]) (st' := [.ref 77]) (g1 := (HW (usc sc 3105 (sc 3105 + 1)) (usc (usc (usc ar 34 (usz (ar 34) (sc 3105) s)) 35 (usz (ar 35) (sc 3105) w)) 36 (usz (ar 36) (sc 3105) v)) tx oc rl ou tl, q)) rfl ?_
                  refine RQ.call rfl rfl x_eforget ?_
                  refine RQ.seg 3 (pc' := 118) (L' := [some (.ref 0), some (.int (iI s)), some (.int (iI w)), some (.int (iI v)), some (.int (iI 0)), some (.int (iI 1))]) (st' := [.int (iI (sc 3105 + 1))]) (g1 := (HW (usc (usc sc 3105 (sc 3105 + 1)) 7703 0) (usc (usc (usc ar 34 (usz (ar 34) (sc 3105) s)) 35 (usz (ar 35) (sc 3105) w)) 36 (usz (ar 36) (sc 3105) v)) tx oc rl ou tl, q)) rfl ?_
                  refine RQ.ret rfl rfl ?_
                  first | (exfalso; omega) | exact ⟨rfl, rfl⟩
                · skip
                  refine RQ.seg 1 (pc' := 93) (L' := [some (.ref 0), some (.int (iI s)), some (.int (iI w)), some (.int (iI v)), some (.int (iI 0)), some (.int (iI 1))]) (st' := [.int (iI (-1))]) (g1 := (HW sc ar tx oc rl ou tl, q)) rfl ?_
                  refine RQ.ret rfl rfl ?_
                  first | (exfalso; omega) | exact ⟨rfl, rfl⟩
              · skip
                refine RQ.call rfl rfl (x_standsN_f hX hF h20) ?_
                refine RQ.seg 2 (pc' := 93) (L' := [some (.ref 0), some (.int (iI s)), some (.int (iI w)), some (.int (iI v)), some (.int (iI 0)), some (.int (iI 1))]) (st' := [.int (iI (-1))]) (g1 := (HW sc ar tx oc rl ou tl, q)) rfl ?_
                refine RQ.ret rfl rfl ?_
                first | (exfalso; omega) | exact ⟨rfl, rfl⟩
        · skip
          refine RQ.call rfl rfl (x_isWiN_f (by omega) hX hF h15) ?_
          refine RQ.seg 5 (pc' := 64) (L' := [some (.ref 0), some (.int (iI s)), some (.int (iI w)), some (.int (iI v)), some (.int (iI 0)), some (.int (iI 0))]) (st' := [.ref 3]) (g1 := (HW sc ar tx oc rl ou tl, q)) rfl ?_
          rcases Decidable.em (0 < nb) with h22 | h22
          · skip
            refine RQ.call rfl rfl (x_standsN_t hX hF h22) ?_
            refine RQ.seg 6 (pc' := 93) (L' := [some (.ref 0), some (.int (iI s)), some (.int (iI w)), some (.int (iI v)), some (.int (iI 0)), some (.int (iI 0))]) (st' := [.int (iI (-1))]) (g1 := (HW sc ar tx oc rl ou tl, q)) rfl ?_
            refine RQ.ret rfl rfl ?_
            first | (exfalso; omega) | exact ⟨rfl, rfl⟩
          · skip
            refine RQ.call rfl rfl (x_standsN_f hX hF h22) ?_
            refine RQ.seg 2 (pc' := 93) (L' := [some (.ref 0), some (.int (iI s)), some (.int (iI w)), some (.int (iI v)), some (.int (iI 0)), some (.int (iI 0))]) (st' := [.int (iI (-1))]) (g1 := (HW sc ar tx oc rl ou tl, q)) rfl ?_
            refine RQ.ret rfl rfl ?_
            first | (exfalso; omega) | exact ⟨rfl, rfl⟩
    · skip
      refine RQ.seg 2 (pc' := 11) (L' := [some (.ref 0), some (.int (iI s)), some (.int (iI w)), some (.int (iI v)), none, none]) (st' := [.int (iI 6), .int (iI w)]) (g1 := (HW sc ar tx oc rl ou tl, q)) rfl ?_
      refine RQ.if2 (a := w) (b := 6) rfl rfl rfl rfl (by omega) (by omega) (fun (h23 : 6 ≤ w) => ?_) (fun (h23 : ¬ 6 ≤ w) => ?_)
      · skip
        refine RQ.seg 4 (pc' := 32) (L' := [some (.ref 0), some (.int (iI s)), some (.int (iI w)), some (.int (iI v)), some (.int (iI 0)), none]) (st' := [.int (iI 1), .int (iI s)]) (g1 := (HW sc ar tx oc rl ou tl, q)) rfl ?_
        refine RQ.if2 (a := s) (b := 1) rfl rfl rfl rfl (by omega) (by omega) (fun (h24 : s ≠ 1) => ?_) (fun (h24 : ¬ s ≠ 1) => ?_)
        · skip
          refine RQ.seg 4 (pc' := 64) (L' := [some (.ref 0), some (.int (iI s)), some (.int (iI w)), some (.int (iI v)), some (.int (iI 0)), some (.int (iI 0))]) (st' := [.ref 3]) (g1 := (HW sc ar tx oc rl ou tl, q)) rfl ?_
          rcases Decidable.em (0 < nb) with h25 | h25
          · skip
            refine RQ.call rfl rfl (x_standsN_t hX hF h25) ?_
            refine RQ.seg 6 (pc' := 93) (L' := [some (.ref 0), some (.int (iI s)), some (.int (iI w)), some (.int (iI v)), some (.int (iI 0)), some (.int (iI 0))]) (st' := [.int (iI (-1))]) (g1 := (HW sc ar tx oc rl ou tl, q)) rfl ?_
            refine RQ.ret rfl rfl ?_
            first | (exfalso; omega) | exact ⟨rfl, rfl⟩
          · skip
            refine RQ.call rfl rfl (x_standsN_f hX hF h25) ?_
            refine RQ.seg 2 (pc' := 93) (L' := [some (.ref 0), some (.int (iI s)), some (.int (iI w)), some (.int (iI v)), some (.int (iI 0)), some (.int (iI 0))]) (st' := [.int (iI (-1))]) (g1 := (HW sc ar tx oc rl ou tl, q)) rfl ?_
            refine RQ.ret rfl rfl ?_
            first | (exfalso; omega) | exact ⟨rfl, rfl⟩
        · skip
          refine RQ.seg 2 (pc' := 37) (L' := [some (.ref 0), some (.int (iI s)), some (.int (iI w)), some (.int (iI v)), some (.int (iI 0)), none]) (st' := [.int (iI w), .ref 0]) (g1 := (HW sc ar tx oc rl ou tl, q)) rfl ?_
          rcases Decidable.em (0 ≤ w ∧ w < nw) with h26 | h26
          · skip
            refine RQ.call rfl rfl (x_isWiN_t (by omega) hX hF h26) ?_
            refine RQ.seg 2 (pc' := 44) (L' := [some (.ref 0), some (.int (iI s)), some (.int (iI w)), some (.int (iI v)), some (.int (iI 0)), none]) (st' := [.int (iI v)]) (g1 := (HW sc ar tx oc rl ou tl, q)) rfl ?_
            refine RQ.if1 (a := v) rfl rfl rfl (by omega) (fun (h27 : v < 0) => ?_) (fun (h27 : ¬ v < 0) => ?_)
            · skip
              refine RQ.seg 4 (pc' := 64) (L' := [some (.ref 0), some (.int (iI s)), some (.int (iI w)), some (.int (iI v)), some (.int (iI 0)), some (.int (iI 0))]) (st' := [.ref 3]) (g1 := (HW sc ar tx oc rl ou tl, q)) rfl ?_
              rcases Decidable.em (0 < nb) with h28 | h28
              · skip
                refine RQ.call rfl rfl (x_standsN_t hX hF h28) ?_
                refine RQ.seg 6 (pc' := 93) (L' := [some (.ref 0), some (.int (iI s)), some (.int (iI w)), some (.int (iI v)), some (.int (iI 0)), some (.int (iI 0))]) (st' := [.int (iI (-1))]) (g1 := (HW sc ar tx oc rl ou tl, q)) rfl ?_
                refine RQ.ret rfl rfl ?_
                first | (exfalso; omega) | exact ⟨rfl, rfl⟩
              · skip
                refine RQ.call rfl rfl (x_standsN_f hX hF h28) ?_
                refine RQ.seg 2 (pc' := 93) (L' := [some (.ref 0), some (.int (iI s)), some (.int (iI w)), some (.int (iI v)), some (.int (iI 0)), some (.int (iI 0))]) (st' := [.int (iI (-1))]) (g1 := (HW sc ar tx oc rl ou tl, q)) rfl ?_
                refine RQ.ret rfl rfl ?_
                first | (exfalso; omega) | exact ⟨rfl, rfl⟩
            · skip
              refine RQ.seg 2 (pc' := 50) (L' := [some (.ref 0), some (.int (iI s)), some (.int (iI w)), some (.int (iI v)), some (.int (iI 0)), none]) (st' := [.int (iI 9), .int (iI v)]) (g1 := (HW sc ar tx oc rl ou tl, q)) rfl ?_
              refine RQ.if2 (a := v) (b := 9) rfl rfl rfl rfl (by omega) (by omega) (fun (h29 : 9 < v) => ?_) (fun (h29 : ¬ 9 < v) => ?_)
              · skip
                refine RQ.seg 4 (pc' := 64) (L' := [some (.ref 0), some (.int (iI s)), some (.int (iI w)), some (.int (iI v)), some (.int (iI 0)), some (.int (iI 0))]) (st' := [.ref 3]) (g1 := (HW sc ar tx oc rl ou tl, q)) rfl ?_
                rcases Decidable.em (0 < nb) with h30 | h30
                · skip
                  refine RQ.call rfl rfl (x_standsN_t hX hF h30) ?_
                  refine RQ.seg 6 (pc' := 93) (L' := [some (.ref 0), some (.int (iI s)), some (.int (iI w)), some (.int (iI v)), some (.int (iI 0)), some (.int (iI 0))]) (st' := [.int (iI (-1))]) (g1 := (HW sc ar tx oc rl ou tl, q)) rfl ?_
                  refine RQ.ret rfl rfl ?_
                  first | (exfalso; omega) | exact ⟨rfl, rfl⟩
                · skip
                  refine RQ.call rfl rfl (x_standsN_f hX hF h30) ?_
                  refine RQ.seg 2 (pc' := 93) (L' := [some (.ref 0), some (.int (iI s)), some (.int (iI w)), some (.int (iI v)), some (.int (iI 0)), some (.int (iI 0))]) (st' := [.int (iI (-1))]) (g1 := (HW sc ar tx oc rl ou tl, q)) rfl ?_
                  refine RQ.ret rfl rfl ?_
                  first | (exfalso; omega) | exact ⟨rfl, rfl⟩
              · skip
                refine RQ.seg 5 (pc' := 64) (L' := [some (.ref 0), some (.int (iI s)), some (.int (iI w)), some (.int (iI v)), some (.int (iI 0)), some (.int (iI 1))]) (st' := [.ref 3]) (g1 := (HW sc ar tx oc rl ou tl, q)) rfl ?_
                rcases Decidable.em (0 < nb) with h31 | h31
                · skip
                  refine RQ.call rfl rfl (x_standsN_t hX hF h31) ?_
                  refine RQ.seg 9 (pc' := 89) (L' := [some (.ref 0), some (.int (iI s)), some (.int (iI w)), some (.int (iI v)), some (.int (iI 0)), some (.int (iI 1))]) (st' := [.int (iI 10), .int (iI (sc 3105))]) (g1 := (HW sc ar tx oc rl ou tl, q)) rfl ?_
                  refine RQ.if2 (a := (sc 3105)) (b := 10) rfl rfl rfl rfl (by omega) (by omega) (fun (h32 : sc 3105 < 10) => ?_) (fun (h32 : ¬ sc 3105 < 10) => ?_)
                  · skip
                    refine RQ.seg 5 (pc' := 101) (L' := [some (.ref 0), some (.int (iI s)), some (.int (iI w)), some (.int (iI v)), some (.int (iI 0)), some (.int (iI 1))]) (st' := [.int (iI v), .int (iI w), .int (iI s), .ref 31]) (g1 := (HW sc ar tx oc rl ou tl, q)) rfl ?_
                    refine RQ.call rfl rfl (x_addAsh (by omega)) ?_
                    refine RQ.seg 2 (pc' := 108) (L' := [some (.ref 0), some (.int (iI s)), some (.int (iI w)), some (.int (iI v)), some (.int (iI 0)), some (.int (iI 1))]) (st' := [.ref 77]) (g1 := (HW (usc sc 3105 (sc 3105 + 1)) (usc (usc (usc ar 34 (usz (ar 34) (sc 3105) s)) 35 (usz (ar 35) (sc 3105) w)) 36 (usz (ar 36) (sc 3105) v)) tx oc rl ou tl, q)) rfl ?_
                    refine RQ.call rfl rfl x_eforget ?_
                    refine RQ.seg 3 (pc' := 118) (L' := [some (.ref 0), some (.int (iI s)), some (.int (iI w)), some (.int (iI v)), some (.int (iI 0)), some (.int (iI 1))]) (st' := [.int (iI (sc 3105 + 1))]) (g1 := (HW (usc (usc sc 3105 (sc 3105 + 1)) 7703 0) (usc (usc (usc ar 34 (usz (ar 34) (sc 3105) s)) 35 (usz (ar 35) (sc 3105) w)) 36 (usz (ar 36) (sc 3105) v)) tx oc rl ou tl, q)) rfl ?_
                    refine RQ.ret rfl rfl ?_
                    first | (exfalso; omega) | exact ⟨rfl, rfl⟩
                  · skip
                    refine RQ.seg 1 (pc' := 93) (L' := [some (.ref 0), some (.int (iI s)), some (.int (iI w)), some (.int (iI v)), some (.int (iI 0)), some (.int (iI 1))]) (st' := [.int (iI (-1))]) (g1 := (HW sc ar tx oc rl ou tl, q)) rfl ?_
                    refine RQ.ret rfl rfl ?_
                    first | (exfalso; omega) | exact ⟨rfl, rfl⟩
                · skip
                  refine RQ.call rfl rfl (x_standsN_f hX hF h31) ?_
                  refine RQ.seg 2 (pc' := 93) (L' := [some (.ref 0), some (.int (iI s)), some (.int (iI w)), some (.int (iI v)), some (.int (iI 0)), some (.int (iI 1))]) (st' := [.int (iI (-1))]) (g1 := (HW sc ar tx oc rl ou tl, q)) rfl ?_
                  refine RQ.ret rfl rfl ?_
                  first | (exfalso; omega) | exact ⟨rfl, rfl⟩
          · skip
            refine RQ.call rfl rfl (x_isWiN_f (by omega) hX hF h26) ?_
            refine RQ.seg 5 (pc' := 64) (L' := [some (.ref 0), some (.int (iI s)), some (.int (iI w)), some (.int (iI v)), some (.int (iI 0)), some (.int (iI 0))]) (st' := [.ref 3]) (g1 := (HW sc ar tx oc rl ou tl, q)) rfl ?_
            rcases Decidable.em (0 < nb) with h33 | h33
            · skip
              refine RQ.call rfl rfl (x_standsN_t hX hF h33) ?_
              refine RQ.seg 6 (pc' := 93) (L' := [some (.ref 0), some (.int (iI s)), some (.int (iI w)), some (.int (iI v)), some (.int (iI 0)), some (.int (iI 0))]) (st' := [.int (iI (-1))]) (g1 := (HW sc ar tx oc rl ou tl, q)) rfl ?_
              refine RQ.ret rfl rfl ?_
              first | (exfalso; omega) | exact ⟨rfl, rfl⟩
            · skip
              refine RQ.call rfl rfl (x_standsN_f hX hF h33) ?_
              refine RQ.seg 2 (pc' := 93) (L' := [some (.ref 0), some (.int (iI s)), some (.int (iI w)), some (.int (iI v)), some (.int (iI 0)), some (.int (iI 0))]) (st' := [.int (iI (-1))]) (g1 := (HW sc ar tx oc rl ou tl, q)) rfl ?_
              refine RQ.ret rfl rfl ?_
              first | (exfalso; omega) | exact ⟨rfl, rfl⟩
      · skip
        refine RQ.seg 1 (pc' := 15) (L' := [some (.ref 0), some (.int (iI s)), some (.int (iI w)), some (.int (iI v)), none, none]) (st' := [.int (iI v)]) (g1 := (HW sc ar tx oc rl ou tl, q)) rfl ?_
        refine RQ.if1 (a := v) rfl rfl rfl (by omega) (fun (h34 : v < 0) => ?_) (fun (h34 : ¬ v < 0) => ?_)
        · skip
          refine RQ.seg 4 (pc' := 32) (L' := [some (.ref 0), some (.int (iI s)), some (.int (iI w)), some (.int (iI v)), some (.int (iI 0)), none]) (st' := [.int (iI 1), .int (iI s)]) (g1 := (HW sc ar tx oc rl ou tl, q)) rfl ?_
          refine RQ.if2 (a := s) (b := 1) rfl rfl rfl rfl (by omega) (by omega) (fun (h35 : s ≠ 1) => ?_) (fun (h35 : ¬ s ≠ 1) => ?_)
          · skip
            refine RQ.seg 4 (pc' := 64) (L' := [some (.ref 0), some (.int (iI s)), some (.int (iI w)), some (.int (iI v)), some (.int (iI 0)), some (.int (iI 0))]) (st' := [.ref 3]) (g1 := (HW sc ar tx oc rl ou tl, q)) rfl ?_
            rcases Decidable.em (0 < nb) with h36 | h36
            · skip
              refine RQ.call rfl rfl (x_standsN_t hX hF h36) ?_
              refine RQ.seg 6 (pc' := 93) (L' := [some (.ref 0), some (.int (iI s)), some (.int (iI w)), some (.int (iI v)), some (.int (iI 0)), some (.int (iI 0))]) (st' := [.int (iI (-1))]) (g1 := (HW sc ar tx oc rl ou tl, q)) rfl ?_
              refine RQ.ret rfl rfl ?_
              first | (exfalso; omega) | exact ⟨rfl, rfl⟩
            · skip
              refine RQ.call rfl rfl (x_standsN_f hX hF h36) ?_
              refine RQ.seg 2 (pc' := 93) (L' := [some (.ref 0), some (.int (iI s)), some (.int (iI w)), some (.int (iI v)), some (.int (iI 0)), some (.int (iI 0))]) (st' := [.int (iI (-1))]) (g1 := (HW sc ar tx oc rl ou tl, q)) rfl ?_
              refine RQ.ret rfl rfl ?_
              first | (exfalso; omega) | exact ⟨rfl, rfl⟩
          · skip
            refine RQ.seg 2 (pc' := 37) (L' := [some (.ref 0), some (.int (iI s)), some (.int (iI w)), some (.int (iI v)), some (.int (iI 0)), none]) (st' := [.int (iI w), .ref 0]) (g1 := (HW sc ar tx oc rl ou tl, q)) rfl ?_
            rcases Decidable.em (0 ≤ w ∧ w < nw) with h37 | h37
            · skip
              refine RQ.call rfl rfl (x_isWiN_t (by omega) hX hF h37) ?_
              refine RQ.seg 2 (pc' := 44) (L' := [some (.ref 0), some (.int (iI s)), some (.int (iI w)), some (.int (iI v)), some (.int (iI 0)), none]) (st' := [.int (iI v)]) (g1 := (HW sc ar tx oc rl ou tl, q)) rfl ?_
              refine RQ.if1 (a := v) rfl rfl rfl (by omega) (fun (h38 : v < 0) => ?_) (fun (h38 : ¬ v < 0) => ?_)
              · skip
                refine RQ.seg 4 (pc' := 64) (L' := [some (.ref 0), some (.int (iI s)), some (.int (iI w)), some (.int (iI v)), some (.int (iI 0)), some (.int (iI 0))]) (st' := [.ref 3]) (g1 := (HW sc ar tx oc rl ou tl, q)) rfl ?_
                rcases Decidable.em (0 < nb) with h39 | h39
                · skip
                  refine RQ.call rfl rfl (x_standsN_t hX hF h39) ?_
                  refine RQ.seg 6 (pc' := 93) (L' := [some (.ref 0), some (.int (iI s)), some (.int (iI w)), some (.int (iI v)), some (.int (iI 0)), some (.int (iI 0))]) (st' := [.int (iI (-1))]) (g1 := (HW sc ar tx oc rl ou tl, q)) rfl ?_
                  refine RQ.ret rfl rfl ?_
                  first | (exfalso; omega) | exact ⟨rfl, rfl⟩
                · skip
                  refine RQ.call rfl rfl (x_standsN_f hX hF h39) ?_
                  refine RQ.seg 2 (pc' := 93) (L' := [some (.ref 0), some (.int (iI s)), some (.int (iI w)), some (.int (iI v)), some (.int (iI 0)), some (.int (iI 0))]) (st' := [.int (iI (-1))]) (g1 := (HW sc ar tx oc rl ou tl, q)) rfl ?_
                  refine RQ.ret rfl rfl ?_
                  first | (exfalso; omega) | exact ⟨rfl, rfl⟩
              · skip
                refine RQ.seg 2 (pc' := 50) (L' := [some (.ref 0), some (.int (iI s)), some (.int (iI w)), some (.int (iI v)), some (.int (iI 0)), none]) (st' := [.int (iI 9), .int (iI v)]) (g1 := (HW sc ar tx oc rl ou tl, q)) rfl ?_
                refine RQ.if2 (a := v) (b := 9) rfl rfl rfl rfl (by omega) (by omega) (fun (h40 : 9 < v) => ?_) (fun (h40 : ¬ 9 < v) => ?_)
                · skip
                  refine RQ.seg 4 (pc' := 64) (L' := [some (.ref 0), some (.int (iI s)), some (.int (iI w)), some (.int (iI v)), some (.int (iI 0)), some (.int (iI 0))]) (st' := [.ref 3]) (g1 := (HW sc ar tx oc rl ou tl, q)) rfl ?_
                  rcases Decidable.em (0 < nb) with h41 | h41
                  · skip
                    refine RQ.call rfl rfl (x_standsN_t hX hF h41) ?_
                    refine RQ.seg 6 (pc' := 93) (L' := [some (.ref 0), some (.int (iI s)), some (.int (iI w)), some (.int (iI v)), some (.int (iI 0)), some (.int (iI 0))]) (st' := [.int (iI (-1))]) (g1 := (HW sc ar tx oc rl ou tl, q)) rfl ?_
                    refine RQ.ret rfl rfl ?_
                    first | (exfalso; omega) | exact ⟨rfl, rfl⟩
                  · skip
                    refine RQ.call rfl rfl (x_standsN_f hX hF h41) ?_
                    refine RQ.seg 2 (pc' := 93) (L' := [some (.ref 0), some (.int (iI s)), some (.int (iI w)), some (.int (iI v)), some (.int (iI 0)), some (.int (iI 0))]) (st' := [.int (iI (-1))]) (g1 := (HW sc ar tx oc rl ou tl, q)) rfl ?_
                    refine RQ.ret rfl rfl ?_
                    first | (exfalso; omega) | exact ⟨rfl, rfl⟩
                · skip
                  refine RQ.seg 5 (pc' := 64) (L' := [some (.ref 0), some (.int (iI s)), some (.int (iI w)), some (.int (iI v)), some (.int (iI 0)), some (.int (iI 1))]) (st' := [.ref 3]) (g1 := (HW sc ar tx oc rl ou tl, q)) rfl ?_
                  rcases Decidable.em (0 < nb) with h42 | h42
                  · skip
                    refine RQ.call rfl rfl (x_standsN_t hX hF h42) ?_
                    refine RQ.seg 9 (pc' := 89) (L' := [some (.ref 0), some (.int (iI s)), some (.int (iI w)), some (.int (iI v)), some (.int (iI 0)), some (.int (iI 1))]) (st' := [.int (iI 10), .int (iI (sc 3105))]) (g1 := (HW sc ar tx oc rl ou tl, q)) rfl ?_
                    refine RQ.if2 (a := (sc 3105)) (b := 10) rfl rfl rfl rfl (by omega) (by omega) (fun (h43 : sc 3105 < 10) => ?_) (fun (h43 : ¬ sc 3105 < 10) => ?_)
                    · skip
                      refine RQ.seg 5 (pc' := 101) (L' := [some (.ref 0), some (.int (iI s)), some (.int (iI w)), some (.int (iI v)), some (.int (iI 0)), some (.int (iI 1))]) (st' := [.int (iI v), .int (iI w), .int (iI s), .ref 31]) (g1 := (HW sc ar tx oc rl ou tl, q)) rfl ?_
                      refine RQ.call rfl rfl (x_addAsh (by omega)) ?_
                      refine RQ.seg 2 (pc' := 108) (L' := [some (.ref 0), some (.int (iI s)), some (.int (iI w)), some (.int (iI v)), some (.int (iI 0)), some (.int (iI 1))]) (st' := [.ref 77]) (g1 := (HW (usc sc 3105 (sc 3105 + 1)) (usc (usc (usc ar 34 (usz (ar 34) (sc 3105) s)) 35 (usz (ar 35) (sc 3105) w)) 36 (usz (ar 36) (sc 3105) v)) tx oc rl ou tl, q)) rfl ?_
                      refine RQ.call rfl rfl x_eforget ?_
                      refine RQ.seg 3 (pc' := 118) (L' := [some (.ref 0), some (.int (iI s)), some (.int (iI w)), some (.int (iI v)), some (.int (iI 0)), some (.int (iI 1))]) (st' := [.int (iI (sc 3105 + 1))]) (g1 := (HW (usc (usc sc 3105 (sc 3105 + 1)) 7703 0) (usc (usc (usc ar 34 (usz (ar 34) (sc 3105) s)) 35 (usz (ar 35) (sc 3105) w)) 36 (usz (ar 36) (sc 3105) v)) tx oc rl ou tl, q)) rfl ?_
                      refine RQ.ret rfl rfl ?_
                      first | (exfalso; omega) | exact ⟨rfl, rfl⟩
                    · skip
                      refine RQ.seg 1 (pc' := 93) (L' := [some (.ref 0), some (.int (iI s)), some (.int (iI w)), some (.int (iI v)), some (.int (iI 0)), some (.int (iI 1))]) (st' := [.int (iI (-1))]) (g1 := (HW sc ar tx oc rl ou tl, q)) rfl ?_
                      refine RQ.ret rfl rfl ?_
                      first | (exfalso; omega) | exact ⟨rfl, rfl⟩
                  · skip
                    refine RQ.call rfl rfl (x_standsN_f hX hF h42) ?_
                    refine RQ.seg 2 (pc' := 93) (L' := [some (.ref 0), some (.int (iI s)), some (.int (iI w)), some (.int (iI v)), some (.int (iI 0)), some (.int (iI 1))]) (st' := [.int (iI (-1))]) (g1 := (HW sc ar tx oc rl ou tl, q)) rfl ?_
                    refine RQ.ret rfl rfl ?_
                    first | (exfalso; omega) | exact ⟨rfl, rfl⟩
            · skip
              refine RQ.call rfl rfl (x_isWiN_f (by omega) hX hF h37) ?_
              refine RQ.seg 5 (pc' := 64) (L' := [some (.ref 0), some (.int (iI s)), some (.int (iI w)), some (.int (iI v)), some (.int (iI 0)), some (.int (iI 0))]) (st' := [.ref 3]) (g1 := (HW sc ar tx oc rl ou tl, q)) rfl ?_
              rcases Decidable.em (0 < nb) with h44 | h44
              · skip
                refine RQ.call rfl rfl (x_standsN_t hX hF h44) ?_
                refine RQ.seg 6 (pc' := 93) (L' := [some (.ref 0), some (.int (iI s)), some (.int (iI w)), some (.int (iI v)), some (.int (iI 0)), some (.int (iI 0))]) (st' := [.int (iI (-1))]) (g1 := (HW sc ar tx oc rl ou tl, q)) rfl ?_
                refine RQ.ret rfl rfl ?_
                first | (exfalso; omega) | exact ⟨rfl, rfl⟩
              · skip
                refine RQ.call rfl rfl (x_standsN_f hX hF h44) ?_
                refine RQ.seg 2 (pc' := 93) (L' := [some (.ref 0), some (.int (iI s)), some (.int (iI w)), some (.int (iI v)), some (.int (iI 0)), some (.int (iI 0))]) (st' := [.int (iI (-1))]) (g1 := (HW sc ar tx oc rl ou tl, q)) rfl ?_
                refine RQ.ret rfl rfl ?_
                first | (exfalso; omega) | exact ⟨rfl, rfl⟩
        · skip
          refine RQ.seg 2 (pc' := 20) (L' := [some (.ref 0), some (.int (iI s)), some (.int (iI w)), some (.int (iI v)), none, none]) (st' := [.int (iI 1), .int (iI v)]) (g1 := (HW sc ar tx oc rl ou tl, q)) rfl ?_
          refine RQ.if2 (a := v) (b := 1) rfl rfl rfl rfl (by omega) (by omega) (fun (h45 : 1 < v) => ?_) (fun (h45 : ¬ 1 < v) => ?_)
          · skip
            refine RQ.seg 4 (pc' := 32) (L' := [some (.ref 0), some (.int (iI s)), some (.int (iI w)), some (.int (iI v)), some (.int (iI 0)), none]) (st' := [.int (iI 1), .int (iI s)]) (g1 := (HW sc ar tx oc rl ou tl, q)) rfl ?_
            refine RQ.if2 (a := s) (b := 1) rfl rfl rfl rfl (by omega) (by omega) (fun (h46 : s ≠ 1) => ?_) (fun (h46 : ¬ s ≠ 1) => ?_)
            · skip
              refine RQ.seg 4 (pc' := 64) (L' := [some (.ref 0), some (.int (iI s)), some (.int (iI w)), some (.int (iI v)), some (.int (iI 0)), some (.int (iI 0))]) (st' := [.ref 3]) (g1 := (HW sc ar tx oc rl ou tl, q)) rfl ?_
              rcases Decidable.em (0 < nb) with h47 | h47
              · skip
                refine RQ.call rfl rfl (x_standsN_t hX hF h47) ?_
                refine RQ.seg 6 (pc' := 93) (L' := [some (.ref 0), some (.int (iI s)), some (.int (iI w)), some (.int (iI v)), some (.int (iI 0)), some (.int (iI 0))]) (st' := [.int (iI (-1))]) (g1 := (HW sc ar tx oc rl ou tl, q)) rfl ?_
                refine RQ.ret rfl rfl ?_
                first | (exfalso; omega) | exact ⟨rfl, rfl⟩
              · skip
                refine RQ.call rfl rfl (x_standsN_f hX hF h47) ?_
                refine RQ.seg 2 (pc' := 93) (L' := [some (.ref 0), some (.int (iI s)), some (.int (iI w)), some (.int (iI v)), some (.int (iI 0)), some (.int (iI 0))]) (st' := [.int (iI (-1))]) (g1 := (HW sc ar tx oc rl ou tl, q)) rfl ?_
                refine RQ.ret rfl rfl ?_
                first | (exfalso; omega) | exact ⟨rfl, rfl⟩
            · skip
              refine RQ.seg 2 (pc' := 37) (L' := [some (.ref 0), some (.int (iI s)), some (.int (iI w)), some (.int (iI v)), some (.int (iI 0)), none]) (st' := [.int (iI w), .ref 0]) (g1 := (HW sc ar tx oc rl ou tl, q)) rfl ?_
              rcases Decidable.em (0 ≤ w ∧ w < nw) with h48 | h48
              · skip
                refine RQ.call rfl rfl (x_isWiN_t (by omega) hX hF h48) ?_
                refine RQ.seg 2 (pc' := 44) (L' := [some (.ref 0), some (.int (iI s)), some (.int (iI w)), some (.int (iI v)), some (.int (iI 0)), none]) (st' := [.int (iI v)]) (g1 := (HW sc ar tx oc rl ou tl, q)) rfl ?_
                refine RQ.if1 (a := v) rfl rfl rfl (by omega) (fun (h49 : v < 0) => ?_) (fun (h49 : ¬ v < 0) => ?_)
                · skip
                  refine RQ.seg 4 (pc' := 64) (L' := [some (.ref 0), some (.int (iI s)), some (.int (iI w)), some (.int (iI v)), some (.int (iI 0)), some (.int (iI 0))]) (st' := [.ref 3]) (g1 := (HW sc ar tx oc rl ou tl, q)) rfl ?_
                  rcases Decidable.em (0 < nb) with h50 | h50
                  · skip
                    refine RQ.call rfl rfl (x_standsN_t hX hF h50) ?_
                    refine RQ.seg 6 (pc' := 93) (L' := [some (.ref 0), some (.int (iI s)), some (.int (iI w)), some (.int (iI v)), some (.int (iI 0)), some (.int (iI 0))]) (st' := [.int (iI (-1))]) (g1 := (HW sc ar tx oc rl ou tl, q)) rfl ?_
                    refine RQ.ret rfl rfl ?_
                    first | (exfalso; omega) | exact ⟨rfl, rfl⟩
                  · skip
                    refine RQ.call rfl rfl (x_standsN_f hX hF h50) ?_
                    refine RQ.seg 2 (pc' := 93) (L' := [some (.ref 0), some (.int (iI s)), some (.int (iI w)), some (.int (iI v)), some (.int (iI 0)), some (.int (iI 0))]) (st' := [.int (iI (-1))]) (g1 := (HW sc ar tx oc rl ou tl, q)) rfl ?_
                    refine RQ.ret rfl rfl ?_
                    first | (exfalso; omega) | exact ⟨rfl, rfl⟩
                · skip
                  refine RQ.seg 2 (pc' := 50) (L' := [some (.ref 0), some (.int (iI s)), some (.int (iI w)), some (.int (iI v)), some (.int (iI 0)), none]) (st' := [.int (iI 9), .int (iI v)]) (g1 := (HW sc ar tx oc rl ou tl, q)) rfl ?_
                  refine RQ.if2 (a := v) (b := 9) rfl rfl rfl rfl (by omega) (by omega) (fun (h51 : 9 < v) => ?_) (fun (h51 : ¬ 9 < v) => ?_)
                  · skip
                    refine RQ.seg 4 (pc' := 64) (L' := [some (.ref 0), some (.int (iI s)), some (.int (iI w)), some (.int (iI v)), some (.int (iI 0)), some (.int (iI 0))]) (st' := [.ref 3]) (g1 := (HW sc ar tx oc rl ou tl, q)) rfl ?_
                    rcases Decidable.em (0 < nb) with h52 | h52
                    · skip
                      refine RQ.call rfl rfl (x_standsN_t hX hF h52) ?_
                      refine RQ.seg 6 (pc' := 93) (L' := [some (.ref 0), some (.int (iI s)), some (.int (iI w)), some (.int (iI v)), some (.int (iI 0)), some (.int (iI 0))]) (st' := [.int (iI (-1))]) (g1 := (HW sc ar tx oc rl ou tl, q)) rfl ?_
                      refine RQ.ret rfl rfl ?_
                      first | (exfalso; omega) | exact ⟨rfl, rfl⟩
                    · skip
                      refine RQ.call rfl rfl (x_standsN_f hX hF h52) ?_
                      refine RQ.seg 2 (pc' := 93) (L' := [some (.ref 0), some (.int (iI s)), some (.int (iI w)), some (.int (iI v)), some (.int (iI 0)), some (.int (iI 0))]) (st' := [.int (iI (-1))]) (g1 := (HW sc ar tx oc rl ou tl, q)) rfl ?_
                      refine RQ.ret rfl rfl ?_
                      first | (exfalso; omega) | exact ⟨rfl, rfl⟩
                  · skip
                    refine RQ.seg 5 (pc' := 64) (L' := [some (.ref 0), some (.int (iI s)), some (.int (iI w)), some (.int (iI v)), some (.int (iI 0)), some (.int (iI 1))]) (st' := [.ref 3]) (g1 := (HW sc ar tx oc rl ou tl, q)) rfl ?_
                    rcases Decidable.em (0 < nb) with h53 | h53
                    · skip
                      refine RQ.call rfl rfl (x_standsN_t hX hF h53) ?_
                      refine RQ.seg 9 (pc' := 89) (L' := [some (.ref 0), some (.int (iI s)), some (.int (iI w)), some (.int (iI v)), some (.int (iI 0)), some (.int (iI 1))]) (st' := [.int (iI 10), .int (iI (sc 3105))]) (g1 := (HW sc ar tx oc rl ou tl, q)) rfl ?_
                      refine RQ.if2 (a := (sc 3105)) (b := 10) rfl rfl rfl rfl (by omega) (by omega) (fun (h54 : sc 3105 < 10) => ?_) (fun (h54 : ¬ sc 3105 < 10) => ?_)
                      · skip
                        refine RQ.seg 5 (pc' := 101) (L' := [some (.ref 0), some (.int (iI s)), some (.int (iI w)), some (.int (iI v)), some (.int (iI 0)), some (.int (iI 1))]) (st' := [.int (iI v), .int (iI w), .int (iI s), .ref 31]) (g1 := (HW sc ar tx oc rl ou tl, q)) rfl ?_
                        refine RQ.call rfl rfl (x_addAsh (by omega)) ?_
                        refine RQ.seg 2 (pc' := 108) (L' := [some (.ref 0), some (.int (iI s)), some (.int (iI w)), some (.int (iI v)), some (.int (iI 0)), some (.int (iI 1))]) (st' := [.ref 77]) (g1 := (HW (usc sc 3105 (sc 3105 + 1)) (usc (usc (usc ar 34 (usz (ar 34) (sc 3105) s)) 35 (usz (ar 35) (sc 3105) w)) 36 (usz (ar 36) (sc 3105) v)) tx oc rl ou tl, q)) rfl ?_
                        refine RQ.call rfl rfl x_eforget ?_
                        refine RQ.seg 3 (pc' := 118) (L' := [some (.ref 0), some (.int (iI s)), some (.int (iI w)), some (.int (iI v)), some (.int (iI 0)), some (.int (iI 1))]) (st' := [.int (iI (sc 3105 + 1))]) (g1 := (HW (usc (usc sc 3105 (sc 3105 + 1)) 7703 0) (usc (usc (usc ar 34 (usz (ar 34) (sc 3105) s)) 35 (usz (ar 35) (sc 3105) w)) 36 (usz (ar 36) (sc 3105) v)) tx oc rl ou tl, q)) rfl ?_
                        refine RQ.ret rfl rfl ?_
                        first | (exfalso; omega) | exact ⟨rfl, rfl⟩
                      · skip
                        refine RQ.seg 1 (pc' := 93) (L' := [some (.ref 0), some (.int (iI s)), some (.int (iI w)), some (.int (iI v)), some (.int (iI 0)), some (.int (iI 1))]) (st' := [.int (iI (-1))]) (g1 := (HW sc ar tx oc rl ou tl, q)) rfl ?_
                        refine RQ.ret rfl rfl ?_
                        first | (exfalso; omega) | exact ⟨rfl, rfl⟩
                    · skip
                      refine RQ.call rfl rfl (x_standsN_f hX hF h53) ?_
                      refine RQ.seg 2 (pc' := 93) (L' := [some (.ref 0), some (.int (iI s)), some (.int (iI w)), some (.int (iI v)), some (.int (iI 0)), some (.int (iI 1))]) (st' := [.int (iI (-1))]) (g1 := (HW sc ar tx oc rl ou tl, q)) rfl ?_
                      refine RQ.ret rfl rfl ?_
                      first | (exfalso; omega) | exact ⟨rfl, rfl⟩
              · skip
                refine RQ.call rfl rfl (x_isWiN_f (by omega) hX hF h48) ?_
                refine RQ.seg 5 (pc' := 64) (L' := [some (.ref 0), some (.int (iI s)), some (.int (iI w)), some (.int (iI v)), some (.int (iI 0)), some (.int (iI 0))]) (st' := [.ref 3]) (g1 := (HW sc ar tx oc rl ou tl, q)) rfl ?_
                rcases Decidable.em (0 < nb) with h55 | h55
                · skip
                  refine RQ.call rfl rfl (x_standsN_t hX hF h55) ?_
                  refine RQ.seg 6 (pc' := 93) (L' := [some (.ref 0), some (.int (iI s)), some (.int (iI w)), some (.int (iI v)), some (.int (iI 0)), some (.int (iI 0))]) (st' := [.int (iI (-1))]) (g1 := (HW sc ar tx oc rl ou tl, q)) rfl ?_
                  refine RQ.ret rfl rfl ?_
                  first | (exfalso; omega) | exact ⟨rfl, rfl⟩
                · skip
                  refine RQ.call rfl rfl (x_standsN_f hX hF h55) ?_
                  refine RQ.seg 2 (pc' := 93) (L' := [some (.ref 0), some (.int (iI s)), some (.int (iI w)), some (.int (iI v)), some (.int (iI 0)), some (.int (iI 0))]) (st' := [.int (iI (-1))]) (g1 := (HW sc ar tx oc rl ou tl, q)) rfl ?_
                  refine RQ.ret rfl rfl ?_
                  first | (exfalso; omega) | exact ⟨rfl, rfl⟩
          · skip
            refine RQ.seg 5 (pc' := 32) (L' := [some (.ref 0), some (.int (iI s)), some (.int (iI w)), some (.int (iI v)), some (.int (iI 1)), none]) (st' := [.int (iI 1), .int (iI s)]) (g1 := (HW sc ar tx oc rl ou tl, q)) rfl ?_
            refine RQ.if2 (a := s) (b := 1) rfl rfl rfl rfl (by omega) (by omega) (fun (h56 : s ≠ 1) => ?_) (fun (h56 : ¬ s ≠ 1) => ?_)
            · skip
              refine RQ.seg 4 (pc' := 64) (L' := [some (.ref 0), some (.int (iI s)), some (.int (iI w)), some (.int (iI v)), some (.int (iI 1)), some (.int (iI 0))]) (st' := [.ref 3]) (g1 := (HW sc ar tx oc rl ou tl, q)) rfl ?_
              rcases Decidable.em (0 < nb) with h57 | h57
              · skip
                refine RQ.call rfl rfl (x_standsN_t hX hF h57) ?_
                refine RQ.seg 7 (pc' := 89) (L' := [some (.ref 0), some (.int (iI s)), some (.int (iI w)), some (.int (iI v)), some (.int (iI 1)), some (.int (iI 0))]) (st' := [.int (iI 10), .int (iI (sc 3105))]) (g1 := (HW sc ar tx oc rl ou tl, q)) rfl ?_
                refine RQ.if2 (a := (sc 3105)) (b := 10) rfl rfl rfl rfl (by omega) (by omega) (fun (h58 : sc 3105 < 10) => ?_) (fun (h58 : ¬ sc 3105 < 10) => ?_)
                · skip
                  refine RQ.seg 5 (pc' := 101) (L' := [some (.ref 0), some (.int (iI s)), some (.int (iI w)), some (.int (iI v)), some (.int (iI 1)), some (.int (iI 0))]) (st' := [.int (iI v), .int (iI w), .int (iI s), .ref 31]) (g1 := (HW sc ar tx oc rl ou tl, q)) rfl ?_
                  refine RQ.call rfl rfl (x_addAsh (by omega)) ?_
                  refine RQ.seg 2 (pc' := 108) (L' := [some (.ref 0), some (.int (iI s)), some (.int (iI w)), some (.int (iI v)), some (.int (iI 1)), some (.int (iI 0))]) (st' := [.ref 77]) (g1 := (HW (usc sc 3105 (sc 3105 + 1)) (usc (usc (usc ar 34 (usz (ar 34) (sc 3105) s)) 35 (usz (ar 35) (sc 3105) w)) 36 (usz (ar 36) (sc 3105) v)) tx oc rl ou tl, q)) rfl ?_
                  refine RQ.call rfl rfl x_eforget ?_
                  refine RQ.seg 3 (pc' := 118) (L' := [some (.ref 0), some (.int (iI s)), some (.int (iI w)), some (.int (iI v)), some (.int (iI 1)), some (.int (iI 0))]) (st' := [.int (iI (sc 3105 + 1))]) (g1 := (HW (usc (usc sc 3105 (sc 3105 + 1)) 7703 0) (usc (usc (usc ar 34 (usz (ar 34) (sc 3105) s)) 35 (usz (ar 35) (sc 3105) w)) 36 (usz (ar 36) (sc 3105) v)) tx oc rl ou tl, q)) rfl ?_
                  refine RQ.ret rfl rfl ?_
                  first | (exfalso; omega) | exact ⟨rfl, rfl⟩
                · skip
                  refine RQ.seg 1 (pc' := 93) (L' := [some (.ref 0), some (.int (iI s)), some (.int (iI w)), some (.int (iI v)), some (.int (iI 1)), some (.int (iI 0))]) (st' := [.int (iI (-1))]) (g1 := (HW sc ar tx oc rl ou tl, q)) rfl ?_
                  refine RQ.ret rfl rfl ?_
                  first | (exfalso; omega) | exact ⟨rfl, rfl⟩
              · skip
                refine RQ.call rfl rfl (x_standsN_f hX hF h57) ?_
                refine RQ.seg 2 (pc' := 93) (L' := [some (.ref 0), some (.int (iI s)), some (.int (iI w)), some (.int (iI v)), some (.int (iI 1)), some (.int (iI 0))]) (st' := [.int (iI (-1))]) (g1 := (HW sc ar tx oc rl ou tl, q)) rfl ?_
                refine RQ.ret rfl rfl ?_
                first | (exfalso; omega) | exact ⟨rfl, rfl⟩
            · skip
              refine RQ.seg 2 (pc' := 37) (L' := [some (.ref 0), some (.int (iI s)), some (.int (iI w)), some (.int (iI v)), some (.int (iI 1)), none]) (st' := [.int (iI w), .ref 0]) (g1 := (HW sc ar tx oc rl ou tl, q)) rfl ?_
              rcases Decidable.em (0 ≤ w ∧ w < nw) with h59 | h59
              · skip
                refine RQ.call rfl rfl (x_isWiN_t (by omega) hX hF h59) ?_
                refine RQ.seg 2 (pc' := 44) (L' := [some (.ref 0), some (.int (iI s)), some (.int (iI w)), some (.int (iI v)), some (.int (iI 1)), none]) (st' := [.int (iI v)]) (g1 := (HW sc ar tx oc rl ou tl, q)) rfl ?_
                refine RQ.if1 (a := v) rfl rfl rfl (by omega) (fun (h60 : v < 0) => ?_) (fun (h60 : ¬ v < 0) => ?_)
                · skip
                  refine RQ.seg 4 (pc' := 64) (L' := [some (.ref 0), some (.int (iI s)), some (.int (iI w)), some (.int (iI v)), some (.int (iI 1)), some (.int (iI 0))]) (st' := [.ref 3]) (g1 := (HW sc ar tx oc rl ou tl, q)) rfl ?_
                  rcases Decidable.em (0 < nb) with h61 | h61
                  · skip
                    refine RQ.call rfl rfl (x_standsN_t hX hF h61) ?_
                    refine RQ.seg 7 (pc' := 89) (L' := [some (.ref 0), some (.int (iI s)), some (.int (iI w)), some (.int (iI v)), some (.int (iI 1)), some (.int (iI 0))]) (st' := [.int (iI 10), .int (iI (sc 3105))]) (g1 := (HW sc ar tx oc rl ou tl, q)) rfl ?_
                    refine RQ.if2 (a := (sc 3105)) (b := 10) rfl rfl rfl rfl (by omega) (by omega) (fun (h62 : sc 3105 < 10) => ?_) (fun (h62 : ¬ sc 3105 < 10) => ?_)
                    · skip
                      refine RQ.seg 5 (pc' := 101) (L' := [some (.ref 0), some (.int (iI s)), some (.int (iI w)), some (.int (iI v)), some (.int (iI 1)), some (.int (iI 0))]) (st' := [.int (iI v), .int (iI w), .int (iI s), .ref 31]) (g1 := (HW sc ar tx oc rl ou tl, q)) rfl ?_
                      refine RQ.call rfl rfl (x_addAsh (by omega)) ?_
                      refine RQ.seg 2 (pc' := 108) (L' := [some (.ref 0), some (.int (iI s)), some (.int (iI w)), some (.int (iI v)), some (.int (iI 1)), some (.int (iI 0))]) (st' := [.ref 77]) (g1 := (HW (usc sc 3105 (sc 3105 + 1)) (usc (usc (usc ar 34 (usz (ar 34) (sc 3105) s)) 35 (usz (ar 35) (sc 3105) w)) 36 (usz (ar 36) (sc 3105) v)) tx oc rl ou tl, q)) rfl ?_
                      refine RQ.call rfl rfl x_eforget ?_
                      refine RQ.seg 3 (pc' := 118) (L' := [some (.ref 0), some (.int (iI s)), some (.int (iI w)), some (.int (iI v)), some (.int (iI 1)), some (.int (iI 0))]) (st' := [.int (iI (sc 3105 + 1))]) (g1 := (HW (usc (usc sc 3105 (sc 3105 + 1)) 7703 0) (usc (usc (usc ar 34 (usz (ar 34) (sc 3105) s)) 35 (usz (ar 35) (sc 3105) w)) 36 (usz (ar 36) (sc 3105) v)) tx oc rl ou tl, q)) rfl ?_
                      refine RQ.ret rfl rfl ?_
                      first | (exfalso; omega) | exact ⟨rfl, rfl⟩
                    · skip
                      refine RQ.seg 1 (pc' := 93) (L' := [some (.ref 0), some (.int (iI s)), some (.int (iI w)), some (.int (iI v)), some (.int (iI 1)), some (.int (iI 0))]) (st' := [.int (iI (-1))]) (g1 := (HW sc ar tx oc rl ou tl, q)) rfl ?_
                      refine RQ.ret rfl rfl ?_
                      first | (exfalso; omega) | exact ⟨rfl, rfl⟩
                  · skip
                    refine RQ.call rfl rfl (x_standsN_f hX hF h61) ?_
                    refine RQ.seg 2 (pc' := 93) (L' := [some (.ref 0), some (.int (iI s)), some (.int (iI w)), some (.int (iI v)), some (.int (iI 1)), some (.int (iI 0))]) (st' := [.int (iI (-1))]) (g1 := (HW sc ar tx oc rl ou tl, q)) rfl ?_
                    refine RQ.ret rfl rfl ?_
                    first | (exfalso; omega) | exact ⟨rfl, rfl⟩
                · skip
                  refine RQ.seg 2 (pc' := 50) (L' := [some (.ref 0), some (.int (iI s)), some (.int (iI w)), some (.int (iI v)), some (.int (iI 1)), none]) (st' := [.int (iI 9), .int (iI v)]) (g1 := (HW sc ar tx oc rl ou tl, q)) rfl ?_
                  refine RQ.if2 (a := v) (b := 9) rfl rfl rfl rfl (by omega) (by omega) (fun (h63 : 9 < v) => ?_) (fun (h63 : ¬ 9 < v) => ?_)
                  · skip
                    refine RQ.seg 4 (pc' := 64) (L' := [some (.ref 0), some (.int (iI s)), some (.int (iI w)), some (.int (iI v)), some (.int (iI 1)), some (.int (iI 0))]) (st' := [.ref 3]) (g1 := (HW sc ar tx oc rl ou tl, q)) rfl ?_
                    rcases Decidable.em (0 < nb) with h64 | h64
                    · skip
                      refine RQ.call rfl rfl (x_standsN_t hX hF h64) ?_
                      refine RQ.seg 7 (pc' := 89) (L' := [some (.ref 0), some (.int (iI s)), some (.int (iI w)), some (.int (iI v)), some (.int (iI 1)), some (.int (iI 0))]) (st' := [.int (iI 10), .int (iI (sc 3105))]) (g1 := (HW sc ar tx oc rl ou tl, q)) rfl ?_
                      refine RQ.if2 (a := (sc 3105)) (b := 10) rfl rfl rfl rfl (by omega) (by omega) (fun (h65 : sc 3105 < 10) => ?_) (fun (h65 : ¬ sc 3105 < 10) => ?_)
                      · skip
                        refine RQ.seg 5 (pc' := 101) (L' := [some (.ref 0), some (.int (iI s)), some (.int (iI w)), some (.int (iI v)), some (.int (iI 1)), some (.int (iI 0))]) (st' := [.int (iI v), .int (iI w), .int (iI s), .ref 31]) (g1 := (HW sc ar tx oc rl ou tl, q)) rfl ?_
                        refine RQ.call rfl rfl (x_addAsh (by omega)) ?_
                        refine RQ.seg 2 (pc' := 108) (L' := [some (.ref 0), some (.int (iI s)), some (.int (iI w)), some (.int (iI v)), some (.int (iI 1)), some (.int (iI 0))]) (st' := [.ref 77]) (g1 := (HW (usc sc 3105 (sc 3105 + 1)) (usc (usc (usc ar 34 (usz (ar 34) (sc 3105) s)) 35 (usz (ar 35) (sc 3105) w)) 36 (usz (ar 36) (sc 3105) v)) tx oc rl ou tl, q)) rfl ?_
                        refine RQ.call rfl rfl x_eforget ?_
                        refine RQ.seg 3 (pc' := 118) (L' := [some (.ref 0), some (.int (iI s)), some (.int (iI w)), some (.int (iI v)), some (.int (iI 1)), some (.int (iI 0))]) (st' := [.int (iI (sc 3105 + 1))]) (g1 := (HW (usc (usc sc 3105 (sc 3105 + 1)) 7703 0) (usc (usc (usc ar 34 (usz (ar 34) (sc 3105) s)) 35 (usz (ar 35) (sc 3105) w)) 36 (usz (ar 36) (sc 3105) v)) tx oc rl ou tl, q)) rfl ?_
                        refine RQ.ret rfl rfl ?_
                        first | (exfalso; omega) | exact ⟨rfl, rfl⟩
                      · skip
                        refine RQ.seg 1 (pc' := 93) (L' := [some (.ref 0), some (.int (iI s)), some (.int (iI w)), some (.int (iI v)), some (.int (iI 1)), some (.int (iI 0))]) (st' := [.int (iI (-1))]) (g1 := (HW sc ar tx oc rl ou tl, q)) rfl ?_
                        refine RQ.ret rfl rfl ?_
                        first | (exfalso; omega) | exact ⟨rfl, rfl⟩
                    · skip
                      refine RQ.call rfl rfl (x_standsN_f hX hF h64) ?_
                      refine RQ.seg 2 (pc' := 93) (L' := [some (.ref 0), some (.int (iI s)), some (.int (iI w)), some (.int (iI v)), some (.int (iI 1)), some (.int (iI 0))]) (st' := [.int (iI (-1))]) (g1 := (HW sc ar tx oc rl ou tl, q)) rfl ?_
                      refine RQ.ret rfl rfl ?_
                      first | (exfalso; omega) | exact ⟨rfl, rfl⟩
                  · skip
                    refine RQ.seg 5 (pc' := 64) (L' := [some (.ref 0), some (.int (iI s)), some (.int (iI w)), some (.int (iI v)), some (.int (iI 1)), some (.int (iI 1))]) (st' := [.ref 3]) (g1 := (HW sc ar tx oc rl ou tl, q)) rfl ?_
                    rcases Decidable.em (0 < nb) with h66 | h66
                    · skip
                      refine RQ.call rfl rfl (x_standsN_t hX hF h66) ?_
                      refine RQ.seg 7 (pc' := 89) (L' := [some (.ref 0), some (.int (iI s)), some (.int (iI w)), some (.int (iI v)), some (.int (iI 1)), some (.int (iI 1))]) (st' := [.int (iI 10), .int (iI (sc 3105))]) (g1 := (HW sc ar tx oc rl ou tl, q)) rfl ?_
                      refine RQ.if2 (a := (sc 3105)) (b := 10) rfl rfl rfl rfl (by omega) (by omega) (fun (h67 : sc 3105 < 10) => ?_) (fun (h67 : ¬ sc 3105 < 10) => ?_)
                      · skip
                        refine RQ.seg 5 (pc' := 101) (L' := [some (.ref 0), some (.int (iI s)), some (.int (iI w)), some (.int (iI v)), some (.int (iI 1)), some (.int (iI 1))]) (st' := [.int (iI v), .int (iI w), .int (iI s), .ref 31]) (g1 := (HW sc ar tx oc rl ou tl, q)) rfl ?_
                        refine RQ.call rfl rfl (x_addAsh (by omega)) ?_
                        refine RQ.seg 2 (pc' := 108) (L' := [some (.ref 0), some (.int (iI s)), some (.int (iI w)), some (.int (iI v)), some (.int (iI 1)), some (.int (iI 1))]) (st' := [.ref 77]) (g1 := (HW (usc sc 3105 (sc 3105 + 1)) (usc (usc (usc ar 34 (usz (ar 34) (sc 3105) s)) 35 (usz (ar 35) (sc 3105) w)) 36 (usz (ar 36) (sc 3105) v)) tx oc rl ou tl, q)) rfl ?_
                        refine RQ.call rfl rfl x_eforget ?_
                        refine RQ.seg 3 (pc' := 118) (L' := [some (.ref 0), some (.int (iI s)), some (.int (iI w)), some (.int (iI v)), some (.int (iI 1)), some (.int (iI 1))]) (st' := [.int (iI (sc 3105 + 1))]) (g1 := (HW (usc (usc sc 3105 (sc 3105 + 1)) 7703 0) (usc (usc (usc ar 34 (usz (ar 34) (sc 3105) s)) 35 (usz (ar 35) (sc 3105) w)) 36 (usz (ar 36) (sc 3105) v)) tx oc rl ou tl, q)) rfl ?_
                        refine RQ.ret rfl rfl ?_
                        first | (exfalso; omega) | exact ⟨rfl, rfl⟩
                      · skip
                        refine RQ.seg 1 (pc' := 93) (L' := [some (.ref 0), some (.int (iI s)), some (.int (iI w)), some (.int (iI v)), some (.int (iI 1)), some (.int (iI 1))]) (st' := [.int (iI (-1))]) (g1 := (HW sc ar tx oc rl ou tl, q)) rfl ?_
                        refine RQ.ret rfl rfl ?_
                        first | (exfalso; omega) | exact ⟨rfl, rfl⟩
                    · skip
                      refine RQ.call rfl rfl (x_standsN_f hX hF h66) ?_
                      refine RQ.seg 2 (pc' := 93) (L' := [some (.ref 0), some (.int (iI s)), some (.int (iI w)), some (.int (iI v)), some (.int (iI 1)), some (.int (iI 1))]) (st' := [.int (iI (-1))]) (g1 := (HW sc ar tx oc rl ou tl, q)) rfl ?_
                      refine RQ.ret rfl rfl ?_
                      first | (exfalso; omega) | exact ⟨rfl, rfl⟩
              · skip
                refine RQ.call rfl rfl (x_isWiN_f (by omega) hX hF h59) ?_
                refine RQ.seg 5 (pc' := 64) (L' := [some (.ref 0), some (.int (iI s)), some (.int (iI w)), some (.int (iI v)), some (.int (iI 1)), some (.int (iI 0))]) (st' := [.ref 3]) (g1 := (HW sc ar tx oc rl ou tl, q)) rfl ?_
                rcases Decidable.em (0 < nb) with h68 | h68
                · skip
                  refine RQ.call rfl rfl (x_standsN_t hX hF h68) ?_
                  refine RQ.seg 7 (pc' := 89) (L' := [some (.ref 0), some (.int (iI s)), some (.int (iI w)), some (.int (iI v)), some (.int (iI 1)), some (.int (iI 0))]) (st' := [.int (iI 10), .int (iI (sc 3105))]) (g1 := (HW sc ar tx oc rl ou tl, q)) rfl ?_
                  refine RQ.if2 (a := (sc 3105)) (b := 10) rfl rfl rfl rfl (by omega) (by omega) (fun (h69 : sc 3105 < 10) => ?_) (fun (h69 : ¬ sc 3105 < 10) => ?_)
                  · skip
                    refine RQ.seg 5 (pc' := 101) (L' := [some (.ref 0), some (.int (iI s)), some (.int (iI w)), some (.int (iI v)), some (.int (iI 1)), some (.int (iI 0))]) (st' := [.int (iI v), .int (iI w), .int (iI s), .ref 31]) (g1 := (HW sc ar tx oc rl ou tl, q)) rfl ?_
                    refine RQ.call rfl rfl (x_addAsh (by omega)) ?_
                    refine RQ.seg 2 (pc' := 108) (L' := [some (.ref 0), some (.int (iI s)), some (.int (iI w)), some (.int (iI v)), some (.int (iI 1)), some (.int (iI 0))]) (st' := [.ref 77]) (g1 := (HW (usc sc 3105 (sc 3105 + 1)) (usc (usc (usc ar 34 (usz (ar 34) (sc 3105) s)) 35 (usz (ar 35) (sc 3105) w)) 36 (usz (ar 36) (sc 3105) v)) tx oc rl ou tl, q)) rfl ?_
                    refine RQ.call rfl rfl x_eforget ?_
                    refine RQ.seg 3 (pc' := 118) (L' := [some (.ref 0), some (.int (iI s)), some (.int (iI w)), some (.int (iI v)), some (.int (iI 1)), some (.int (iI 0))]) (st' := [.int (iI (sc 3105 + 1))]) (g1 := (HW (usc (usc sc 3105 (sc 3105 + 1)) 7703 0) (usc (usc (usc ar 34 (usz (ar 34) (sc 3105) s)) 35 (usz (ar 35) (sc 3105) w)) 36 (usz (ar 36) (sc 3105) v)) tx oc rl ou tl, q)) rfl ?_
                    refine RQ.ret rfl rfl ?_
                    first | (exfalso; omega) | exact ⟨rfl, rfl⟩
                  · skip
                    refine RQ.seg 1 (pc' := 93) (L' := [some (.ref 0), some (.int (iI s)), some (.int (iI w)), some (.int (iI v)), some (.int (iI 1)), some (.int (iI 0))]) (st' := [.int (iI (-1))]) (g1 := (HW sc ar tx oc rl ou tl, q)) rfl ?_
                    refine RQ.ret rfl rfl ?_
                    first | (exfalso; omega) | exact ⟨rfl, rfl⟩
                · skip
                  refine RQ.call rfl rfl (x_standsN_f hX hF h68) ?_
                  refine RQ.seg 2 (pc' := 93) (L' := [some (.ref 0), some (.int (iI s)), some (.int (iI w)), some (.int (iI v)), some (.int (iI 1)), some (.int (iI 0))]) (st' := [.int (iI (-1))]) (g1 := (HW sc ar tx oc rl ou tl, q)) rfl ?_
                  refine RQ.ret rfl rfl ?_
                  first | (exfalso; omega) | exact ⟨rfl, rfl⟩
theorem x_fo_l {K : PK} {d : Nat} {sc : Nat → Int} {ar : Nat → Int → Int} {tx : Nat} {rl : Nat → Option Nat} {ou : Nat → Int64} {tl : List PO} {q : Nat × Nat} {j n : Nat} {f : Int → Int} {Q : Option Value → PG → Prop} {i w0 : Int} {nw nb : Int} {W B : Int → Int → Int} (hF : FrOK nw nb W B) (hX : FrX (sc 303) (sc 304) (ar 5) (ar 6) (ar 7) (ar 8) (ar 10) (ar 11) (ar 12) nw nb W B) {r e : Int → Int} (hj : j < tl.length) (hR : RwK nw nb W B r e n f sc ar) (hi : 0 ≤ i ∧ i < t3 (mny nw nb W B)) (rw0 : -2147483648 ≤ w0 ∧ w0 < 2147483648) (hk : Q (some (.int (iI (ftn nw nb W B i w0 nb.toNat)))) (HW sc ar tx (j + 118) rl ou (otl tl j n f), q)) : ∀ (m b : Nat) (hm : (b : Int) + m = nb) (hz : ftn nw nb W B i w0 b = 0), RQ K (d + 1) 1 false (some .int) cd13 2 [some (.ref 77), some (.int (iI i)), some (.int (iI w0)), some (.int (iI (b : Int)))] [] (HW sc ar tx (j + 118) rl ou (otl tl j n f), q) Q
  | 0, b, hm, hz => by
    have hn := hF.1
    have hm1 := hX.1
    have hm2 := hX.2.1
    obtain ⟨hk1, hT, hmo, hn5, ⟨hr, he⟩, hf⟩ := id hR
    have hB := mny_b (nw := nw) (nb := nb) (W := W) (B := B) hF.1.2.1
    have ht3 := t3_r hB
    have hsz : sc 6308 = t3 (mny nw nb W B) := hT.2.2
    refine RQ.seg 5 (pc' := 13) (L' := [some (.ref 77), some (.int (iI i)), some (.int (iI w0)), some (.int (iI (b : Int)))]) (st' := [.int (iI (sc 304)), .int (iI (b : Int))]) (g1 := (HW sc ar tx (j + 118) rl ou (otl tl j n f), q)) rfl ?_
    refine RQ.if2 (a := (b : Int)) (b := (sc 304)) rfl rfl rfl rfl (by omega) (by omega) (fun _ => ?_) (fun (q : ¬ sc 304 ≤ (b : Int)) => absurd (show sc 304 ≤ (b : Int) from by omega) q)
    refine RQ.seg 1 (pc' := 57) (L' := [some (.ref 77), some (.int (iI i)), some (.int (iI w0)), some (.int (iI (b : Int)))]) (st' := [.int (iI 0)]) (g1 := (HW sc ar tx (j + 118) rl ou (otl tl j n f), q)) rfl ?_
    refine RQ.ret rfl rfl ?_
    rw [show nb.toNat = b by omega, hz] at hk
    exact hk
  | m + 1, b, hm, hz => by
    have hn := hF.1
    have hm1 := hX.1
    have hm2 := hX.2.1
    obtain ⟨hk1, hT, hmo, hn5, ⟨hr, he⟩, hf⟩ := id hR
    have hB := mny_b (nw := nw) (nb := nb) (W := W) (B := B) hF.1.2.1
    have ht3 := t3_r hB
    have hsz : sc 6308 = t3 (mny nw nb W B) := hT.2.2
    have hpr := PI_r hF i (b := (b : Int)) (by omega)
    refine RQ.seg 5 (pc' := 13) (L' := [some (.ref 77), some (.int (iI i)), some (.int (iI w0)), some (.int (iI (b : Int)))]) (st' := [.int (iI (sc 304)), .int (iI (b : Int))]) (g1 := (HW sc ar tx (j + 118) rl ou (otl tl j n f), q)) rfl ?_
    refine RQ.if2 (a := (b : Int)) (b := (sc 304)) rfl rfl rfl rfl (by omega) (by omega) (fun (q : sc 304 ≤ (b : Int)) => absurd q (show ¬ sc 304 ≤ (b : Int) from by omega)) (fun _ => ?_)
    refine RQ.seg 4 (pc' := 24) (L' := [some (.ref 77), some (.int (iI i)), some (.int (iI w0)), some (.int (iI (b : Int)))]) (st' := [.int (iI i), .ref (j + 118)]) (g1 := (HW sc ar tx (j + 118) rl ou (otl tl j n f), q)) rfl ?_
    refine RQ.ialdv (z := i) (v := (mko nw nb W B r e i)) rfl rfl (HWo_r hj) (by omega) (by omega) (hf i (by omega) (by omega)) ?_
    refine RQ.seg 1 (pc' := 26) (L' := [some (.ref 77), some (.int (iI i)), some (.int (iI w0)), some (.int (iI (b : Int)))]) (st' := [.int (iI (b : Int)), .int (iI (mko nw nb W B r e i))]) (g1 := (HW sc ar tx (j + 118) rl ou (otl tl j n f), q)) rfl ?_
    have ho := mko_r hF hr he i
    rcases (show rbk nw nb W B i (b : Int) = 1 ∨ rbk nw nb W B i (b : Int) = 0 by have := rbk_r (nw := nw) (nb := nb) (W := W) (B := B) i (b : Int); omega) with hbk | hbk
    · skip
      refine RQ.call rfl rfl (CallR.up (d := 1) (x_backIn_t (d := 0) (o := mko nw nb W B r e i) (b := (b : Int)) (by omega) (by omega) ((mko_bk hF hr he i (b := (b : Int)) (by omega)).trans hbk)) (by omega)) ?_
      refine RQ.seg 3 (pc' := 2) (L' := [some (.ref 77), some (.int (iI i)), some (.int (iI w0)), some (.int ((iI (b : Int)) + (iI 1)))]) (st' := []) (g1 := (HW sc ar tx (j + 118) rl ou (otl tl j n f), q)) rfl ?_
      refine RQ.to (L' := [some (.ref 77), some (.int (iI i)), some (.int (iI w0)), some (.int (iI ((b : Int) + 1)))]) (st' := []) (by simp only [iI_add, iI_sub, iI_mul, iI_neg]) rfl ?_
      exact x_fo_l hF hX hj hR hi rw0 hk m (b + 1) (by omega) (by rw [ftn]; rw [if_neg (by omega)]; exact hz)
    · skip
      refine RQ.call rfl rfl (CallR.up (d := 1) (x_backIn_f (d := 0) (o := mko nw nb W B r e i) (b := (b : Int)) (by omega) (by omega) ((mko_bk hF hr he i (b := (b : Int)) (by omega)).trans hbk)) (by omega)) ?_
      refine RQ.seg 5 (pc' := 38) (L' := [some (.ref 77), some (.int (iI i)), some (.int (iI w0)), some (.int (iI (b : Int)))]) (st' := [.int (iI (b : Int)), .int (iI i), .ref 63]) (g1 := (HW sc ar tx (j + 118) rl ou (otl tl j n f), q)) rfl ?_
      refine RQ.call rfl rfl (CallR.up (d := 1) (x_putIn (d := 0) (i := i) (b := (b : Int)) hF hX hT (by omega) (by omega)) (by omega)) ?_
      refine RQ.seg 1 (pc' := 43) (L' := [some (.ref 77), some (.int (iI i)), some (.int (iI w0)), some (.int (iI (b : Int)))]) (st' := [.int (iI 10), .int (iI (PI nw nb W B i (b : Int)))]) (g1 := (HW sc ar tx (j + 118) rl ou (otl tl j n f), q)) rfl ?_
      refine RQ.idiv (a := (PI nw nb W B i (b : Int))) (b := 10) rfl rfl rfl (by omega) (by omega) ?_
      refine RQ.seg 1 (pc' := 45) (L' := [some (.ref 77), some (.int (iI i)), some (.int (iI w0)), some (.int (iI (b : Int)))]) (st' := [.int (iI w0), .int (iI ((PI nw nb W B i (b : Int)) / 10))]) (g1 := (HW sc ar tx (j + 118) rl ou (otl tl j n f), q)) rfl ?_
      refine RQ.if2 (a := ((PI nw nb W B i (b : Int)) / 10)) (b := w0) rfl rfl rfl rfl (by omega) (by omega) (fun (h2 : (PI nw nb W B i (b : Int)) / 10 ≠ w0) => ?_) (fun (h2 : ¬ (PI nw nb W B i (b : Int)) / 10 ≠ w0) => ?_)
      · skip
        refine RQ.seg 2 (pc' := 2) (L' := [some (.ref 77), some (.int (iI i)), some (.int (iI w0)), some (.int ((iI (b : Int)) + (iI 1)))]) (st' := []) (g1 := (HW sc ar tx (j + 118) rl ou (otl tl j n f), q)) rfl ?_
        refine RQ.to (L' := [some (.ref 77), some (.int (iI i)), some (.int (iI w0)), some (.int (iI ((b : Int) + 1)))]) (st' := []) (by simp only [iI_add, iI_sub, iI_mul, iI_neg]) rfl ?_
        exact x_fo_l hF hX hj hR hi rw0 hk m (b + 1) (by omega) (by rw [ftn]; rw [if_neg (by omega)]; exact hz)
      · skip
        refine RQ.seg 1 (pc' := 49) (L' := [some (.ref 77), some (.int (iI i)), some (.int (iI w0)), some (.int (iI (b : Int)))]) (st' := [.int (iI 1)]) (g1 := (HW sc ar tx (j + 118) rl ou (otl tl j n f), q)) rfl ?_
        refine RQ.ret rfl rfl ?_
        have e9 : ftn nw nb W B i w0 (b + 1) = 1 := by rw [ftn]; exact if_pos (by omega)
        rw [ftn_1 e9 nb.toNat (by omega)] at hk
        exact hk
theorem x_feetOn {K : PK} {d : Nat} {sc : Nat → Int} {ar : Nat → Int → Int} {tx : Nat} {rl : Nat → Option Nat} {ou : Nat → Int64} {tl : List PO} {q : Nat × Nat} {j n : Nat} {f : Int → Int} {i w0 : Int} {nw nb : Int} {W B : Int → Int → Int} (hF : FrOK nw nb W B) (hX : FrX (sc 303) (sc 304) (ar 5) (ar 6) (ar 7) (ar 8) (ar 10) (ar 11) (ar 12) nw nb W B) {r e : Int → Int} (hj : j < tl.length) (hR : RwK nw nb W B r e n f sc ar) (hi : 0 ≤ i ∧ i < t3 (mny nw nb W B)) (rw0 : -2147483648 ≤ w0 ∧ w0 < 2147483648) : CallR K (d + 2) 13 [.ref 77, .int (iI i), .int (iI w0)] (HW sc ar tx (j + 118) rl ou (otl tl j n f), q) (some (.int (iI (ftn nw nb W B i w0 nb.toNat)))) (HW sc ar tx (j + 118) rl ou (otl tl j n f), q) := by
  apply CQ.x
  have hn := hF.1
  have hm1 := hX.1
  have hm2 := hX.2.1
  refine CQ.of (own := 1) (n := 4) (ini := false) (rt := (some .int)) (cd := cd13) (by decide +kernel) rfl (by decide +kernel) rfl (Nat.le_of_ble_eq_true rfl) ?_
  refine RQ.seg 2 (pc' := 2) (L' := [some (.ref 77), some (.int (iI i)), some (.int (iI w0)), some (.int (iI 0))]) (st' := []) (g1 := (HW sc ar tx (j + 118) rl ou (otl tl j n f), q)) rfl ?_
  exact x_fo_l hF hX hj hR hi rw0 ⟨rfl, rfl⟩ nb.toNat 0 (by omega) rfl
theorem x_sf_l {K : PK} {d : Nat} {sc : Nat → Int} {ar : Nat → Int → Int} {tx : Nat} {rl : Nat → Option Nat} {ou : Nat → Int64} {tl : List PO} {q : Nat × Nat} {j n : Nat} {f : Int → Int} {Q : Option Value → PG → Prop} {i w0 : Int} {nw nb : Int} {W B : Int → Int → Int} (hF : FrOK nw nb W B) (hX : FrX (sc 303) (sc 304) (ar 5) (ar 6) (ar 7) (ar 8) (ar 10) (ar 11) (ar 12) nw nb W B) {r e : Int → Int} (hj : j < tl.length) (hR : RwK nw nb W B r e n f sc ar) (hi : 0 ≤ i ∧ i < t3 (mny nw nb W B)) (rw0 : -2147483648 ≤ w0 ∧ w0 < 2147483648) (hk : Q (some (.int (iI (swn nw nb W B i w0 nb.toNat)))) (HW sc ar tx (j + 118) rl ou (otl tl j n f), q)) : ∀ (m b : Nat) (hm : (b : Int) + m = nb), RQ K (d + 1) 1 false (some .int) cd14 5 [some (.ref 77), some (.int (iI i)), some (.int (iI w0)), some (.int (iI (swn nw nb W B i w0 b))), some (.int (iI (b : Int)))] [] (HW sc ar tx (j + 118) rl ou (otl tl j n f), q) Q
  | 0, b, hm => by
    have hn := hF.1
    have hm1 := hX.1
    have hm2 := hX.2.1
    obtain ⟨hk1, hT, hmo, hn5, ⟨hr, he⟩, hf⟩ := id hR
    have hB := mny_b (nw := nw) (nb := nb) (W := W) (B := B) hF.1.2.1
    have ht3 := t3_r hB
    have hsz : sc 6308 = t3 (mny nw nb W B) := hT.2.2
    refine RQ.seg 5 (pc' := 17) (L' := [some (.ref 77), some (.int (iI i)), some (.int (iI w0)), some (.int (iI (swn nw nb W B i w0 b))), some (.int (iI (b : Int)))]) (st' := [.int (iI (sc 304)), .int (iI (b : Int))]) (g1 := (HW sc ar tx (j + 118) rl ou (otl tl j n f), q)) rfl ?_
    refine RQ.if2 (a := (b : Int)) (b := (sc 304)) rfl rfl rfl rfl (by omega) (by omega) (fun _ => ?_) (fun (q : ¬ sc 304 ≤ (b : Int)) => absurd (show sc 304 ≤ (b : Int) from by omega) q)
    refine RQ.seg 1 (pc' := 78) (L' := [some (.ref 77), some (.int (iI i)), some (.int (iI w0)), some (.int (iI (swn nw nb W B i w0 b))), some (.int (iI (b : Int)))]) (st' := [.int (iI (swn nw nb W B i w0 b))]) (g1 := (HW sc ar tx (j + 118) rl ou (otl tl j n f), q)) rfl ?_
    refine RQ.ret rfl rfl ?_
    rw [show nb.toNat = b by omega] at hk
    exact hk
  | m + 1, b, hm => by
    have hn := hF.1
    have hm1 := hX.1
    have hm2 := hX.2.1
    obtain ⟨hk1, hT, hmo, hn5, ⟨hr, he⟩, hf⟩ := id hR
    have hB := mny_b (nw := nw) (nb := nb) (W := W) (B := B) hF.1.2.1
    have ht3 := t3_r hB
    have hsz : sc 6308 = t3 (mny nw nb W B) := hT.2.2
    have hpr := PI_r hF i (b := (b : Int)) (by omega)
    refine RQ.seg 5 (pc' := 17) (L' := [some (.ref 77), some (.int (iI i)), some (.int (iI w0)), some (.int (iI (swn nw nb W B i w0 b))), some (.int (iI (b : Int)))]) (st' := [.int (iI (sc 304)), .int (iI (b : Int))]) (g1 := (HW sc ar tx (j + 118) rl ou (otl tl j n f), q)) rfl ?_
    refine RQ.if2 (a := (b : Int)) (b := (sc 304)) rfl rfl rfl rfl (by omega) (by omega) (fun (q : sc 304 ≤ (b : Int)) => absurd q (show ¬ sc 304 ≤ (b : Int) from by omega)) (fun _ => ?_)
    refine RQ.seg 4 (pc' := 28) (L' := [some (.ref 77), some (.int (iI i)), some (.int (iI w0)), some (.int (iI (swn nw nb W B i w0 b))), some (.int (iI (b : Int)))]) (st' := [.int (iI i), .ref (j + 118)]) (g1 := (HW sc ar tx (j + 118) rl ou (otl tl j n f), q)) rfl ?_
    refine RQ.ialdv (z := i) (v := (mko nw nb W B r e i)) rfl rfl (HWo_r hj) (by omega) (by omega) (hf i (by omega) (by omega)) ?_
    refine RQ.seg 1 (pc' := 31) (L' := [some (.ref 77), some (.int (iI i)), some (.int (iI w0)), some (.int (iI (swn nw nb W B i w0 b))), some (.int (iI (b : Int)))]) (st' := [.int (iI (b : Int)), .int (iI (mko nw nb W B r e i))]) (g1 := (HW sc ar tx (j + 118) rl ou (otl tl j n f), q)) rfl ?_
    have ho := mko_r hF hr he i
    rcases (show rbk nw nb W B i (b : Int) = 1 ∨ rbk nw nb W B i (b : Int) = 0 by have := rbk_r (nw := nw) (nb := nb) (W := W) (B := B) i (b : Int); omega) with hbk | hbk
    · skip
      refine RQ.call rfl rfl (CallR.up (d := 1) (x_backIn_t (d := 0) (o := mko nw nb W B r e i) (b := (b : Int)) (by omega) (by omega) ((mko_bk hF hr he i (b := (b : Int)) (by omega)).trans hbk)) (by omega)) ?_
      refine RQ.seg 3 (pc' := 5) (L' := [some (.ref 77), some (.int (iI i)), some (.int (iI w0)), some (.int (iI (swn nw nb W B i w0 b))), some (.int ((iI (b : Int)) + (iI 1)))]) (st' := []) (g1 := (HW sc ar tx (j + 118) rl ou (otl tl j n f), q)) rfl ?_
      refine RQ.to (L' := [some (.ref 77), some (.int (iI i)), some (.int (iI w0)), some (.int (iI (swn nw nb W B i w0 b))), some (.int (iI ((b : Int) + 1)))]) (st' := []) (by simp only [iI_add, iI_sub, iI_mul, iI_neg]) rfl ?_
      have e9 : swn nw nb W B i w0 b = swn nw nb W B i w0 (b + 1) := by rw [swn]; first | rw [if_pos (by omega)] | rw [if_neg (by omega)]
      have e10 := x_sf_l (K := K) (d := d) hF hX hj hR hi rw0 hk m (b + 1) (by omega)
      rw [← e9] at e10
      exact e10
    · skip
      refine RQ.call rfl rfl (CallR.up (d := 1) (x_backIn_f (d := 0) (o := mko nw nb W B r e i) (b := (b : Int)) (by omega) (by omega) ((mko_bk hF hr he i (b := (b : Int)) (by omega)).trans hbk)) (by omega)) ?_
      refine RQ.seg 5 (pc' := 44) (L' := [some (.ref 77), some (.int (iI i)), some (.int (iI w0)), some (.int (iI (swn nw nb W B i w0 b))), some (.int (iI (b : Int)))]) (st' := [.int (iI (b : Int)), .int (iI i), .ref 63]) (g1 := (HW sc ar tx (j + 118) rl ou (otl tl j n f), q)) rfl ?_
      refine RQ.call rfl rfl (CallR.up (d := 1) (x_putIn (d := 0) (i := i) (b := (b : Int)) hF hX hT (by omega) (by omega)) (by omega)) ?_
      refine RQ.seg 1 (pc' := 49) (L' := [some (.ref 77), some (.int (iI i)), some (.int (iI w0)), some (.int (iI (swn nw nb W B i w0 b))), some (.int (iI (b : Int)))]) (st' := [.int (iI 10), .int (iI (PI nw nb W B i (b : Int)))]) (g1 := (HW sc ar tx (j + 118) rl ou (otl tl j n f), q)) rfl ?_
      refine RQ.irem (a := (PI nw nb W B i (b : Int))) (b := 10) rfl rfl rfl (by omega) (by omega) ?_
      refine RQ.seg 1 (pc' := 51) (L' := [some (.ref 77), some (.int (iI i)), some (.int (iI w0)), some (.int (iI (swn nw nb W B i w0 b))), some (.int (iI (b : Int)))]) (st' := [.int (iI w0), .int (iI ((PI nw nb W B i (b : Int)) % 10))]) (g1 := (HW sc ar tx (j + 118) rl ou (otl tl j n f), q)) rfl ?_
      refine RQ.if2 (a := ((PI nw nb W B i (b : Int)) % 10)) (b := w0) rfl rfl rfl rfl (by omega) (by omega) (fun (h2 : (PI nw nb W B i (b : Int)) % 10 ≠ w0) => ?_) (fun (h2 : ¬ (PI nw nb W B i (b : Int)) % 10 ≠ w0) => ?_)
      · skip
        refine RQ.seg 2 (pc' := 5) (L' := [some (.ref 77), some (.int (iI i)), some (.int (iI w0)), some (.int (iI (swn nw nb W B i w0 b))), some (.int ((iI (b : Int)) + (iI 1)))]) (st' := []) (g1 := (HW sc ar tx (j + 118) rl ou (otl tl j n f), q)) rfl ?_
        refine RQ.to (L' := [some (.ref 77), some (.int (iI i)), some (.int (iI w0)), some (.int (iI (swn nw nb W B i w0 b))), some (.int (iI ((b : Int) + 1)))]) (st' := []) (by simp only [iI_add, iI_sub, iI_mul, iI_neg]) rfl ?_
        have e9 : swn nw nb W B i w0 b = swn nw nb W B i w0 (b + 1) := by rw [swn]; first | rw [if_pos (by omega)] | rw [if_neg (by omega)]
        have e10 := x_sf_l (K := K) (d := d) hF hX hj hR hi rw0 hk m (b + 1) (by omega)
        rw [← e9] at e10
        exact e10
      · skip
        refine RQ.seg 5 (pc' := 63) (L' := [some (.ref 77), some (.int (iI i)), some (.int (iI w0)), some (.int (iI (swn nw nb W B i w0 b))), some (.int (iI (b : Int)))]) (st' := [.int (iI i), .ref (j + 118), .int (iI (swn nw nb W B i w0 b))]) (g1 := (HW sc ar tx (j + 118) rl ou (otl tl j n f), q)) rfl ?_
        refine RQ.ialdv (z := i) (v := (mko nw nb W B r e i)) rfl rfl (HWo_r hj) (by omega) (by omega) (hf i (by omega) (by omega)) ?_
        refine RQ.seg 1 (pc' := 66) (L' := [some (.ref 77), some (.int (iI i)), some (.int (iI w0)), some (.int (iI (swn nw nb W B i w0 b))), some (.int (iI (b : Int)))]) (st' := [.int (iI (b : Int)), .int (iI (mko nw nb W B r e i)), .int (iI (swn nw nb W B i w0 b))]) (g1 := (HW sc ar tx (j + 118) rl ou (otl tl j n f), q)) rfl ?_
        refine RQ.call rfl rfl (CallR.up (d := 1) (x_savedIn (d := 0) (o := mko nw nb W B r e i) (b := (b : Int)) (by omega) (by omega)) (by omega)) ?_
        rw [mko_sv hF hr he i (b := (b : Int)) (by omega)]
        refine RQ.seg 4 (pc' := 5) (L' := [some (.ref 77), some (.int (iI i)), some (.int (iI w0)), some (.int ((iI (swn nw nb W B i w0 b)) + (iI (sS (svn nb W B (PI nw nb W B i)) (b : Int))))), some (.int ((iI (b : Int)) + (iI 1)))]) (st' := []) (g1 := (HW sc ar tx (j + 118) rl ou (otl tl j n f), q)) rfl ?_
        refine RQ.to (L' := [some (.ref 77), some (.int (iI i)), some (.int (iI w0)), some (.int (iI (swn nw nb W B i w0 b + (sS (svn nb W B (PI nw nb W B i)) (b : Int))))), some (.int (iI ((b : Int) + 1)))]) (st' := []) (by simp only [iI_add, iI_sub, iI_mul, iI_neg]) rfl ?_
        have e9 : swn nw nb W B i w0 b + (sS (svn nb W B (PI nw nb W B i)) (b : Int)) = swn nw nb W B i w0 (b + 1) := by rw [swn]; first | rw [if_pos (by omega)] | rw [if_neg (by omega)]
        have e10 := x_sf_l (K := K) (d := d) hF hX hj hR hi rw0 hk m (b + 1) (by omega)
        rw [← e9] at e10
        exact e10
theorem x_savedFrom {K : PK} {d : Nat} {sc : Nat → Int} {ar : Nat → Int → Int} {tx : Nat} {rl : Nat → Option Nat} {ou : Nat → Int64} {tl : List PO} {q : Nat × Nat} {j n : Nat} {f : Int → Int} {i w0 : Int} {nw nb : Int} {W B : Int → Int → Int} (hF : FrOK nw nb W B) (hX : FrX (sc 303) (sc 304) (ar 5) (ar 6) (ar 7) (ar 8) (ar 10) (ar 11) (ar 12) nw nb W B) {r e : Int → Int} (hj : j < tl.length) (hR : RwK nw nb W B r e n f sc ar) (hi : 0 ≤ i ∧ i < t3 (mny nw nb W B)) (rw0 : -2147483648 ≤ w0 ∧ w0 < 2147483648) : CallR K (d + 2) 14 [.ref 77, .int (iI i), .int (iI w0)] (HW sc ar tx (j + 118) rl ou (otl tl j n f), q) (some (.int (iI (swn nw nb W B i w0 nb.toNat)))) (HW sc ar tx (j + 118) rl ou (otl tl j n f), q) := by
  apply CQ.x
  have hn := hF.1
  have hm1 := hX.1
  have hm2 := hX.2.1
  refine CQ.of (own := 1) (n := 5) (ini := false) (rt := (some .int)) (cd := cd14) (by decide +kernel) rfl (by decide +kernel) rfl (Nat.le_of_ble_eq_true rfl) ?_
  refine RQ.seg 4 (pc' := 5) (L' := [some (.ref 77), some (.int (iI i)), some (.int (iI w0)), some (.int (iI 0)), some (.int (iI 0))]) (st' := []) (g1 := (HW sc ar tx (j + 118) rl ou (otl tl j n f), q)) rfl ?_
  exact x_sf_l hF hX hj hR hi rw0 ⟨rfl, rfl⟩ nb.toNat 0 (by omega)
theorem x_ci_l {K : PK} {d : Nat} {g : PG} {Q : Option Value → PG → Prop} {nw nb : Int} {W B : Int → Int → Int} (hF : FrOK nw nb W B) {r e : Int → Int} (hr : Mk01 r) (he : Mk01 e) {i : Int} (hk : Q (some (.int (iI (xcn nw nb W B i nb.toNat)))) g) : ∀ (m b : Nat) (hm : b + m = 3), RQ K (d + 1) 1 false (some .int) cd15 4 [some (.int (iI (mko nw nb W B r e i))), some (.int (iI (xcn nw nb W B i b))), some (.int (iI (b : Int)))] [] g Q
  | 0, b, hm => by
    have hn := hF.1
    have ho := mko_r hF hr he i
    have hx8 := xcn_8 (nw := nw) (nb := nb) (W := W) (B := B) (i := i) (n := b) (by omega)
    refine RQ.seg 2 (pc' := 6) (L' := [some (.int (iI (mko nw nb W B r e i))), some (.int (iI (xcn nw nb W B i b))), some (.int (iI (b : Int)))]) (st' := [.int (iI 3), .int (iI (b : Int))]) (g1 := g) rfl ?_
    refine RQ.if2 (a := (b : Int)) (b := 3) rfl rfl rfl rfl (by omega) (by omega) (fun _ => ?_) (fun (q : ¬ 3 ≤ (b : Int)) => absurd (show 3 ≤ (b : Int) from by omega) q)
    refine RQ.seg 1 (pc' := 30) (L' := [some (.int (iI (mko nw nb W B r e i))), some (.int (iI (xcn nw nb W B i b))), some (.int (iI (b : Int)))]) (st' := [.int (iI (xcn nw nb W B i b))]) (g1 := g) rfl ?_
    refine RQ.ret rfl rfl ?_
    rw [← xcn_3 hF b (by omega) (by omega)] at hk
    exact hk
  | m + 1, b, hm => by
    have hn := hF.1
    have ho := mko_r hF hr he i
    have hx8 := xcn_8 (nw := nw) (nb := nb) (W := W) (B := B) (i := i) (n := b) (by omega)
    have hsr := shn_r nb W B (PI nw nb W B i) (b : Int) nb.toNat
    have hsr2 : 0 ≤ shk nb W B (PI nw nb W B i) (b : Int) ∧ shk nb W B (PI nw nb W B i) (b : Int) ≤ nb.toNat := hsr
    refine RQ.seg 2 (pc' := 6) (L' := [some (.int (iI (mko nw nb W B r e i))), some (.int (iI (xcn nw nb W B i b))), some (.int (iI (b : Int)))]) (st' := [.int (iI 3), .int (iI (b : Int))]) (g1 := g) rfl ?_
    refine RQ.if2 (a := (b : Int)) (b := 3) rfl rfl rfl rfl (by omega) (by omega) (fun (q : 3 ≤ (b : Int)) => absurd q (show ¬ 3 ≤ (b : Int) from by omega)) (fun _ => ?_)
    refine RQ.seg 2 (pc' := 11) (L' := [some (.int (iI (mko nw nb W B r e i))), some (.int (iI (xcn nw nb W B i b))), some (.int (iI (b : Int)))]) (st' := [.int (iI (b : Int)), .int (iI (mko nw nb W B r e i))]) (g1 := g) rfl ?_
    refine RQ.call rfl rfl (x_shakeIn (o := mko nw nb W B r e i) (b := (b : Int)) (by omega) (by omega)) ?_
    rw [mko_sk hF hr he i (b := (b : Int)) (by omega)]
    refine RQ.if1 (a := (shk nb W B (PI nw nb W B i) (b : Int))) rfl rfl rfl (by omega) (fun (h2 : shk nb W B (PI nw nb W B i) (b : Int) ≤ 0) => ?_) (fun (h2 : ¬ shk nb W B (PI nw nb W B i) (b : Int) ≤ 0) => ?_)
    · skip
      refine RQ.seg 2 (pc' := 4) (L' := [some (.int (iI (mko nw nb W B r e i))), some (.int (iI (xcn nw nb W B i b))), some (.int ((iI (b : Int)) + (iI 1)))]) (st' := []) (g1 := g) rfl ?_
      refine RQ.to (L' := [some (.int (iI (mko nw nb W B r e i))), some (.int (iI (xcn nw nb W B i b))), some (.int (iI ((b : Int) + 1)))]) (st' := []) (by simp only [iI_add, iI_sub, iI_mul, iI_neg]) rfl ?_
      have e9 : xcn nw nb W B i b = xcn nw nb W B i (b + 1) := by rw [xcn]; first | rw [if_pos (by omega)] | rw [if_neg (by omega)]
      have e10 := x_ci_l (K := K) (d := d) hF hr he hk m (b + 1) (by omega)
      rw [← e9] at e10
      exact e10
    · skip
      refine RQ.seg 3 (pc' := 20) (L' := [some (.int (iI (mko nw nb W B r e i))), some (.int (iI (xcn nw nb W B i b))), some (.int (iI (b : Int)))]) (st' := [.int (iI (b : Int)), .int (iI 1), .int (iI (xcn nw nb W B i b))]) (g1 := g) rfl ?_
      refine RQ.ishl1 (b := (b : Int)) rfl rfl rfl (by omega) ?_
      refine RQ.ior (a := (xcn nw nb W B i b)) (b := ((b : Int))) rfl rfl rfl (by omega) (by omega) ?_
      refine RQ.seg 3 (pc' := 4) (L' := [some (.int (iI (mko nw nb W B r e i))), some (.int (iI (orz (xcn nw nb W B i b) ((b : Int))))), some (.int ((iI (b : Int)) + (iI 1)))]) (st' := []) (g1 := g) rfl ?_
      refine RQ.to (L' := [some (.int (iI (mko nw nb W B r e i))), some (.int (iI (orz (xcn nw nb W B i b) ((b : Int))))), some (.int (iI ((b : Int) + 1)))]) (st' := []) (by simp only [iI_add, iI_sub, iI_mul, iI_neg]) rfl ?_
      have e9 : orz (xcn nw nb W B i b) ((b : Int)) = xcn nw nb W B i (b + 1) := by rw [xcn]; first | rw [if_pos (by omega)] | rw [if_neg (by omega)]
      have e10 := x_ci_l (K := K) (d := d) hF hr he hk m (b + 1) (by omega)
      rw [← e9] at e10
      exact e10
theorem x_crossers {K : PK} {d : Nat} {g : PG} {nw nb : Int} {W B : Int → Int → Int} (hF : FrOK nw nb W B) {r e : Int → Int} (hr : Mk01 r) (he : Mk01 e) {i : Int} : CallR K (d + 2) 15 [.int (iI (mko nw nb W B r e i))] g (some (.int (iI (xcn nw nb W B i nb.toNat)))) g := by
  apply CQ.x
  refine CQ.of (own := 1) (n := 3) (ini := false) (rt := (some .int)) (cd := cd15) (by decide +kernel) rfl (by decide +kernel) rfl (Nat.le_of_ble_eq_true rfl) ?_
  refine RQ.seg 4 (pc' := 4) (L' := [some (.int (iI (mko nw nb W B r e i))), some (.int (iI 0)), some (.int (iI 0))]) (st' := []) (g1 := g) rfl ?_
  exact x_ci_l hF hr he ⟨rfl, rfl⟩ 3 0 (by omega)
theorem x_ag_l {K : PK} {d : Nat} {sc : Nat → Int} {ar : Nat → Int → Int} {tx : Nat} {rl : Nat → Option Nat} {ou : Nat → Int64} {tl : List PO} {q : Nat × Nat} {j n : Nat} {f : Int → Int} {Q : Option Value → PG → Prop} {i : Int} {nw nb : Int} {W B : Int → Int → Int} (hF : FrOK nw nb W B) (hX : FrX (sc 303) (sc 304) (ar 5) (ar 6) (ar 7) (ar 8) (ar 10) (ar 11) (ar 12) nw nb W B) {r e : Int → Int} (hj : j < tl.length) (hR : RwK nw nb W B r e n f sc ar) (hi : 0 ≤ i ∧ i < t3 (mny nw nb W B)) {Z : SS} (hZ : SeO Z (sc 3105) (ar 32) (ar 33) (ar 34) (ar 35) (ar 36)) (hA : AsOK nw Z) (hk : Q (some (.int (iI (sof nw nb W B Z i)))) (HW sc ar tx (j + 118) rl ou (otl tl j n f), q)) : ∀ (m k : Nat) (e3 e4 : Option Value) (hm : (k : Int) + m = zN Z) (hs : son nw nb W B Z i k = true), RQ K (d + 2) 1 false (some .boolean) cd12 2 [some (.ref 77), some (.int (iI i)), some (.int (iI (k : Int))), e3, e4] [] (HW sc ar tx (j + 118) rl ou (otl tl j n f), q) Q
  | 0, k, e3, e4, hm, hs => by
    have hn := hF.1
    have hm1 := hX.1
    have hm2 := hX.2.1
    obtain ⟨hk1, hT, hmo, hn5, ⟨hr, he⟩, hf⟩ := id hR
    have hB := mny_b (nw := nw) (nb := nb) (W := W) (B := B) hF.1.2.1
    have ht3 := t3_r hB
    have hsz : sc 6308 = t3 (mny nw nb W B) := hT.2.2
    have hA1 := hA.1
    have hna : sc 3105 = zN Z := hZ.2.2.1
    refine RQ.seg 4 (pc' := 10) (L' := [some (.ref 77), some (.int (iI i)), some (.int (iI (k : Int))), e3, e4]) (st' := [.int (iI (sc 3105)), .int (iI (k : Int))]) (g1 := (HW sc ar tx (j + 118) rl ou (otl tl j n f), q)) rfl ?_
    refine RQ.to (L' := [some (.ref 77), some (.int (iI i)), some (.int (iI (k : Int))), e3, e4]) (st' := [.int (iI (zN Z)), .int (iI (k : Int))]) rfl (by rw [show sc 3105 = zN Z from hna]) ?_
    refine RQ.if2 (a := (k : Int)) (b := (zN Z)) rfl rfl rfl rfl (by omega) (by omega) (fun _ => ?_) (fun (q : ¬ zN Z ≤ (k : Int)) => absurd (show zN Z ≤ (k : Int) from by omega) q)
    refine RQ.seg 1 (pc' := 75) (L' := [some (.ref 77), some (.int (iI i)), some (.int (iI (k : Int))), e3, e4]) (st' := [.int (iI 1)]) (g1 := (HW sc ar tx (j + 118) rl ou (otl tl j n f), q)) rfl ?_
    refine RQ.ret rfl rfl ?_
    have e9 : sof nw nb W B Z i = 1 := by unfold sof; rw [show (zN Z).toNat = k by omega]; exact if_pos hs
    rw [e9] at hk
    exact hk
  | m + 1, k, e3, e4, hm, hs => by
    have hn := hF.1
    have hm1 := hX.1
    have hm2 := hX.2.1
    obtain ⟨hk1, hT, hmo, hn5, ⟨hr, he⟩, hf⟩ := id hR
    have hB := mny_b (nw := nw) (nb := nb) (W := W) (B := B) hF.1.2.1
    have ht3 := t3_r hB
    have hsz : sc 6308 = t3 (mny nw nb W B) := hT.2.2
    have hA1 := hA.1
    have hna : sc 3105 = zN Z := hZ.2.2.1
    have hAk := hA.2 (k : Int) (by omega) (by omega)
    have hsok := svn_ok hF (PI_ok hF i)
    refine RQ.seg 4 (pc' := 10) (L' := [some (.ref 77), some (.int (iI i)), some (.int (iI (k : Int))), e3, e4]) (st' := [.int (iI (sc 3105)), .int (iI (k : Int))]) (g1 := (HW sc ar tx (j + 118) rl ou (otl tl j n f), q)) rfl ?_
    refine RQ.to (L' := [some (.ref 77), some (.int (iI i)), some (.int (iI (k : Int))), e3, e4]) (st' := [.int (iI (zN Z)), .int (iI (k : Int))]) rfl (by rw [show sc 3105 = zN Z from hna]) ?_
    refine RQ.if2 (a := (k : Int)) (b := (zN Z)) rfl rfl rfl rfl (by omega) (by omega) (fun (q : zN Z ≤ (k : Int)) => absurd q (show ¬ zN Z ≤ (k : Int) from by omega)) (fun _ => ?_)
    refine RQ.seg 4 (pc' := 21) (L' := [some (.ref 77), some (.int (iI i)), some (.int (iI (k : Int))), e3, e4]) (st' := [.int (iI (k : Int)), .ref 35]) (g1 := (HW sc ar tx (j + 118) rl ou (otl tl j n f), q)) rfl ?_
    refine RQ.ialdv (z := (k : Int)) (v := (zw Z (k : Int))) rfl rfl rfl (by omega) (by decide) (hZ.2.2.2 (k : Int) (by omega) (by omega)).2.1 ?_
    refine RQ.seg 5 (pc' := 31) (L' := [some (.ref 77), some (.int (iI i)), some (.int (iI (k : Int))), some (.int (iI (zw Z (k : Int)))), e4]) (st' := [.int (iI (k : Int)), .ref 34]) (g1 := (HW sc ar tx (j + 118) rl ou (otl tl j n f), q)) rfl ?_
    refine RQ.ialdv (z := (k : Int)) (v := (zs Z (k : Int))) rfl rfl rfl (by omega) (by decide) (hZ.2.2.2 (k : Int) (by omega) (by omega)).1 ?_
    refine RQ.if1 (a := (zs Z (k : Int))) rfl rfl rfl (by omega) (fun (h2 : zs Z (k : Int) ≠ 0) => ?_) (fun (h2 : ¬ zs Z (k : Int) ≠ 0) => ?_)
    · skip
      refine RQ.seg 3 (pc' := 47) (L' := [some (.ref 77), some (.int (iI i)), some (.int (iI (k : Int))), some (.int (iI (zw Z (k : Int)))), e4]) (st' := [.int (iI (zw Z (k : Int))), .int (iI i), .ref 77]) (g1 := (HW sc ar tx (j + 118) rl ou (otl tl j n f), q)) rfl ?_
      have hwk : 0 ≤ zw Z (k : Int) ∧ zw Z (k : Int) < nw := by omega
      have hWk := hF.2.1 (zw Z (k : Int)) hwk.1 hwk.2
      have hlk := hsok.1 (zw Z (k : Int)) hwk.1 hwk.2
      have hsw := swn_w hF (i := i) hwk
      have ev : asv nw nb W B Z i (k : Int) = swn nw nb W B i (zw Z (k : Int)) nb.toNat := by unfold asv; rw [if_pos (by omega)]
      refine RQ.call rfl rfl (x_savedFrom (w0 := zw Z (k : Int)) hF hX hj hR hi (by omega)) ?_
      refine RQ.seg 6 (pc' := 62) (L' := [some (.ref 77), some (.int (iI i)), some (.int (iI (k : Int))), some (.int (iI (zw Z (k : Int)))), some (.int (iI (swn nw nb W B i (zw Z (k : Int)) nb.toNat)))]) (st' := [.int (iI (k : Int)), .ref 36, .int (iI (swn nw nb W B i (zw Z (k : Int)) nb.toNat))]) (g1 := (HW sc ar tx (j + 118) rl ou (otl tl j n f), q)) rfl ?_
      refine RQ.ialdv (z := (k : Int)) (v := (zv Z (k : Int))) rfl rfl rfl (by omega) (by decide) (hZ.2.2.2 (k : Int) (by omega) (by omega)).2.2 ?_
      refine RQ.if2 (a := (swn nw nb W B i (zw Z (k : Int)) nb.toNat)) (b := (zv Z (k : Int))) rfl rfl rfl rfl (by omega) (by omega) (fun (h3 : swn nw nb W B i (zw Z (k : Int)) nb.toNat = zv Z (k : Int)) => ?_) (fun (h3 : ¬ swn nw nb W B i (zw Z (k : Int)) nb.toNat = zv Z (k : Int)) => ?_)
      · skip
        refine RQ.seg 2 (pc' := 2) (L' := [some (.ref 77), some (.int (iI i)), some (.int ((iI (k : Int)) + (iI 1))), some (.int (iI (zw Z (k : Int)))), some (.int (iI (swn nw nb W B i (zw Z (k : Int)) nb.toNat)))]) (st' := []) (g1 := (HW sc ar tx (j + 118) rl ou (otl tl j n f), q)) rfl ?_
        refine RQ.to (L' := [some (.ref 77), some (.int (iI i)), some (.int (iI ((k : Int) + 1))), some (.int (iI (zw Z (k : Int)))), some (.int (iI (swn nw nb W B i (zw Z (k : Int)) nb.toNat)))]) (st' := []) (by simp only [iI_add, iI_sub, iI_mul, iI_neg]) rfl ?_
        exact x_ag_l hF hX hj hR hi hZ hA hk m (k + 1) _ _ (by omega) (by rw [son, hs, Bool.true_and]; exact decide_eq_true (by omega))
      · skip
        refine RQ.seg 1 (pc' := 67) (L' := [some (.ref 77), some (.int (iI i)), some (.int (iI (k : Int))), some (.int (iI (zw Z (k : Int)))), some (.int (iI (swn nw nb W B i (zw Z (k : Int)) nb.toNat)))]) (st' := [.int (iI 0)]) (g1 := (HW sc ar tx (j + 118) rl ou (otl tl j n f), q)) rfl ?_
        refine RQ.ret rfl rfl ?_
        rw [sof_0 (k := k) (by omega) (by omega)] at hk
        exact hk
    · skip
      refine RQ.seg 3 (pc' := 38) (L' := [some (.ref 77), some (.int (iI i)), some (.int (iI (k : Int))), some (.int (iI (zw Z (k : Int)))), e4]) (st' := [.int (iI (zw Z (k : Int))), .int (iI i), .ref 77]) (g1 := (HW sc ar tx (j + 118) rl ou (otl tl j n f), q)) rfl ?_
      have hfr := ftn_r (nw := nw) (nb := nb) (W := W) (B := B) (i := i) (w := zw Z (k : Int)) nb.toNat
      have ev : asv nw nb W B Z i (k : Int) = ftn nw nb W B i (zw Z (k : Int)) nb.toNat := by unfold asv; rw [if_neg (by omega)]
      refine RQ.call rfl rfl (x_feetOn (w0 := zw Z (k : Int)) hF hX hj hR hi (by omega)) ?_
      refine RQ.seg 7 (pc' := 62) (L' := [some (.ref 77), some (.int (iI i)), some (.int (iI (k : Int))), some (.int (iI (zw Z (k : Int)))), some (.int (iI (ftn nw nb W B i (zw Z (k : Int)) nb.toNat)))]) (st' := [.int (iI (k : Int)), .ref 36, .int (iI (ftn nw nb W B i (zw Z (k : Int)) nb.toNat))]) (g1 := (HW sc ar tx (j + 118) rl ou (otl tl j n f), q)) rfl ?_
      refine RQ.ialdv (z := (k : Int)) (v := (zv Z (k : Int))) rfl rfl rfl (by omega) (by decide) (hZ.2.2.2 (k : Int) (by omega) (by omega)).2.2 ?_
      refine RQ.if2 (a := (ftn nw nb W B i (zw Z (k : Int)) nb.toNat)) (b := (zv Z (k : Int))) rfl rfl rfl rfl (by omega) (by omega) (fun (h4 : ftn nw nb W B i (zw Z (k : Int)) nb.toNat = zv Z (k : Int)) => ?_) (fun (h4 : ¬ ftn nw nb W B i (zw Z (k : Int)) nb.toNat = zv Z (k : Int)) => ?_)
      · skip
        refine RQ.seg 2 (pc' := 2) (L' := [some (.ref 77), some (.int (iI i)), some (.int ((iI (k : Int)) + (iI 1))), some (.int (iI (zw Z (k : Int)))), some (.int (iI (ftn nw nb W B i (zw Z (k : Int)) nb.toNat)))]) (st' := []) (g1 := (HW sc ar tx (j + 118) rl ou (otl tl j n f), q)) rfl ?_
        refine RQ.to (L' := [some (.ref 77), some (.int (iI i)), some (.int (iI ((k : Int) + 1))), some (.int (iI (zw Z (k : Int)))), some (.int (iI (ftn nw nb W B i (zw Z (k : Int)) nb.toNat)))]) (st' := []) (by simp only [iI_add, iI_sub, iI_mul, iI_neg]) rfl ?_
        exact x_ag_l hF hX hj hR hi hZ hA hk m (k + 1) _ _ (by omega) (by rw [son, hs, Bool.true_and]; exact decide_eq_true (by omega))
      · skip
        refine RQ.seg 1 (pc' := 67) (L' := [some (.ref 77), some (.int (iI i)), some (.int (iI (k : Int))), some (.int (iI (zw Z (k : Int)))), some (.int (iI (ftn nw nb W B i (zw Z (k : Int)) nb.toNat)))]) (st' := [.int (iI 0)]) (g1 := (HW sc ar tx (j + 118) rl ou (otl tl j n f), q)) rfl ?_
        refine RQ.ret rfl rfl ?_
        rw [sof_0 (k := k) (by omega) (by omega)] at hk
        exact hk
theorem x_agrees {K : PK} {d : Nat} {sc : Nat → Int} {ar : Nat → Int → Int} {tx : Nat} {rl : Nat → Option Nat} {ou : Nat → Int64} {tl : List PO} {q : Nat × Nat} {j n : Nat} {f : Int → Int} {i : Int} {nw nb : Int} {W B : Int → Int → Int} (hF : FrOK nw nb W B) (hX : FrX (sc 303) (sc 304) (ar 5) (ar 6) (ar 7) (ar 8) (ar 10) (ar 11) (ar 12) nw nb W B) {r e : Int → Int} (hj : j < tl.length) (hR : RwK nw nb W B r e n f sc ar) (hi : 0 ≤ i ∧ i < t3 (mny nw nb W B)) {Z : SS} (hZ : SeO Z (sc 3105) (ar 32) (ar 33) (ar 34) (ar 35) (ar 36)) (hA : AsOK nw Z) : CallR K (d + 3) 12 [.ref 77, .int (iI i)] (HW sc ar tx (j + 118) rl ou (otl tl j n f), q) (some (.int (iI (sof nw nb W B Z i)))) (HW sc ar tx (j + 118) rl ou (otl tl j n f), q) := by
  apply CQ.x
  have hn := hF.1
  have hm1 := hX.1
  have hm2 := hX.2.1
  have hA1 := hA.1
  refine CQ.of (own := 1) (n := 5) (ini := false) (rt := (some .boolean)) (cd := cd12) (by decide +kernel) rfl (by decide +kernel) rfl (Nat.le_of_ble_eq_true rfl) ?_
  refine RQ.seg 2 (pc' := 2) (L' := [some (.ref 77), some (.int (iI i)), some (.int (iI 0)), none, none]) (st' := []) (g1 := (HW sc ar tx (j + 118) rl ou (otl tl j n f), q)) rfl ?_
  exact x_ag_l hF hX hj hR hi hZ hA ⟨rfl, rfl⟩ (zN Z).toNat 0 _ _ (by omega) rfl
theorem x_ef_l {K : PK} {d : Nat} {tx : Nat} {rl : Nat → Option Nat} {ou : Nat → Int64} {tl : List PO} {q : Nat × Nat} {j n : Nat} {ar : Nat → Int → Int} {Q : Option Value → PG → Prop} {nw nb : Int} {W B : Int → Int → Int} (hF : FrOK nw nb W B) {r : Int → Int} (hj : j < tl.length) {Z : SS} (hA : AsOK nw Z) : ∀ (m k : Nat) (sc : Nat → Int) (f e : Int → Int) (e3 : Option Value) (hm : (k : Int) + m = t3 (mny nw nb W B)) (hX : FrX (sc 303) (sc 304) (ar 5) (ar 6) (ar 7) (ar 8) (ar 10) (ar 11) (ar 12) nw nb W B) (hZ : SeO Z (sc 3105) (ar 32) (ar 33) (ar 34) (ar 35) (ar 36)) (hR : RwK nw nb W B r e n f sc ar) (hmk : (∀ i, 0 ≤ i → i < (k : Int) → e i = sof nw nb W B Z i)) (hkn : sc 7702 = (kbn nw nb W B Z k).1) (hk : ∀ sc' f' e', Same [7702, 7703] sc sc' → sc' 7703 = 1 → sc' 7702 = knv nw nb W B Z → RwK nw nb W B r e' n f' sc' ar → (∀ i, 0 ≤ i → i < t3 (mny nw nb W B) → e' i = sof nw nb W B Z i) → Q none (HW sc' ar tx (j + 118) rl ou (otl tl j n f'), q)), RQ K (d + 3) 1 false none cd11 37 [some (.ref 77), some (.int (iI ((kbn nw nb W B Z k).2))), some (.int (iI (k : Int))), e3] [] (HW sc ar tx (j + 118) rl ou (otl tl j n f), q) Q
  | 0, k, sc, f, e, e3, hm, hX, hZ, hR, hmk, hkn, hk => by
    have hn := hF.1
    have hm1 := hX.1
    have hm2 := hX.2.1
    obtain ⟨hk1, hT, hmo, hn5, ⟨hr, he⟩, hf⟩ := id hR
    have hB := mny_b (nw := nw) (nb := nb) (W := W) (B := B) hF.1.2.1
    have ht3 := t3_r hB
    have hsz : sc 6308 = t3 (mny nw nb W B) := hT.2.2
    have hkb := kbn_r hF (Z := Z) k
    have hx8 := xcn_8 (nw := nw) (nb := nb) (W := W) (B := B) (i := (k : Int)) (n := nb.toNat) (by omega)
    have hso := sof_r (nw := nw) (nb := nb) (W := W) (B := B) Z (k : Int)
    refine RQ.seg 4 (pc' := 45) (L' := [some (.ref 77), some (.int (iI ((kbn nw nb W B Z k).2))), some (.int (iI (k : Int))), e3]) (st' := [.int (iI (sc 6308)), .int (iI (k : Int))]) (g1 := (HW sc ar tx (j + 118) rl ou (otl tl j n f), q)) rfl ?_
    refine RQ.to (L' := [some (.ref 77), some (.int (iI ((kbn nw nb W B Z k).2))), some (.int (iI (k : Int))), e3]) (st' := [.int (iI (t3 (mny nw nb W B))), .int (iI (k : Int))]) rfl (by rw [show sc 6308 = t3 (mny nw nb W B) from hsz]) ?_
    refine RQ.if2 (a := (k : Int)) (b := (t3 (mny nw nb W B))) rfl rfl rfl rfl (by omega) (by omega) (fun _ => ?_) (fun (q : ¬ t3 (mny nw nb W B) ≤ (k : Int)) => absurd (show t3 (mny nw nb W B) ≤ (k : Int) from by omega) q)
    refine RQ.seg 2 (pc' := 100) (L' := [some (.ref 77), some (.int (iI ((kbn nw nb W B Z k).2))), some (.int (iI (k : Int))), e3]) (st' := [.int (iI ((kbn nw nb W B Z k).2)), .ref 77]) (g1 := (HW sc ar tx (j + 118) rl ou (otl tl j n f), q)) rfl ?_
    refine RQ.if1 (a := ((kbn nw nb W B Z k).2)) rfl rfl rfl (by omega) (fun (h2 : (kbn nw nb W B Z k).2 = 0) => ?_) (fun (h2 : ¬ (kbn nw nb W B Z k).2 = 0) => ?_)
    · skip
      refine RQ.seg 5 (pc' := 119) (L' := [some (.ref 77), some (.int (iI ((kbn nw nb W B Z k).2))), some (.int (iI (k : Int))), e3]) (st' := []) (g1 := (HW (usc (usc sc 7702 0) 7703 1) ar tx (j + 118) rl ou (otl tl j n f), q)) rfl ?_
      refine RQ.ret rfl rfl ?_
      have e9 : knv nw nb W B Z = 0 := by unfold knv; rw [show (t3 (mny nw nb W B)).toNat = k by omega]; first | rw [if_pos (by omega)] | rw [if_neg (by omega)]
      exact hk _ f e (Same.us rfl (Same.us rfl Same.rf)) rfl (by rw [e9]; rfl) (hR.fl rfl rfl rfl) (fun i i0 i1 => hmk i i0 (by omega))
    · skip
      refine RQ.seg 2 (pc' := 107) (L' := [some (.ref 77), some (.int (iI ((kbn nw nb W B Z k).2))), some (.int (iI (k : Int))), e3]) (st' := [.int (iI (sc 7702)), .ref 77]) (g1 := (HW sc ar tx (j + 118) rl ou (otl tl j n f), q)) rfl ?_
      refine RQ.to (L' := [some (.ref 77), some (.int (iI ((kbn nw nb W B Z k).2))), some (.int (iI (k : Int))), e3]) (st' := [.int (iI ((kbn nw nb W B Z k).1)), .ref 77]) rfl (by rw [show sc 7702 = (kbn nw nb W B Z k).1 from hkn]) ?_
      refine RQ.seg 5 (pc' := 119) (L' := [some (.ref 77), some (.int (iI ((kbn nw nb W B Z k).2))), some (.int (iI (k : Int))), e3]) (st' := []) (g1 := (HW (usc (usc sc 7702 ((kbn nw nb W B Z k).1)) 7703 1) ar tx (j + 118) rl ou (otl tl j n f), q)) rfl ?_
      refine RQ.ret rfl rfl ?_
      have e9 : knv nw nb W B Z = (kbn nw nb W B Z k).1 := by unfold knv; rw [show (t3 (mny nw nb W B)).toNat = k by omega]; first | rw [if_pos (by omega)] | rw [if_neg (by omega)]
      exact hk _ f e (Same.us rfl (Same.us rfl Same.rf)) rfl (by rw [e9]; rfl) (hR.fl rfl rfl rfl) (fun i i0 i1 => hmk i i0 (by omega))
  | m + 1, k, sc, f, e, e3, hm, hX, hZ, hR, hmk, hkn, hk => by
    have hn := hF.1
    have hm1 := hX.1
    have hm2 := hX.2.1
    obtain ⟨hk1, hT, hmo, hn5, ⟨hr, he⟩, hf⟩ := id hR
    have hB := mny_b (nw := nw) (nb := nb) (W := W) (B := B) hF.1.2.1
    have ht3 := t3_r hB
    have hsz : sc 6308 = t3 (mny nw nb W B) := hT.2.2
    have hkb := kbn_r hF (Z := Z) k
    have hx8 := xcn_8 (nw := nw) (nb := nb) (W := W) (B := B) (i := (k : Int)) (n := nb.toNat) (by omega)
    have hso := sof_r (nw := nw) (nb := nb) (W := W) (B := B) Z (k : Int)
    refine RQ.seg 4 (pc' := 45) (L' := [some (.ref 77), some (.int (iI ((kbn nw nb W B Z k).2))), some (.int (iI (k : Int))), e3]) (st' := [.int (iI (sc 6308)), .int (iI (k : Int))]) (g1 := (HW sc ar tx (j + 118) rl ou (otl tl j n f), q)) rfl ?_
    refine RQ.to (L' := [some (.ref 77), some (.int (iI ((kbn nw nb W B Z k).2))), some (.int (iI (k : Int))), e3]) (st' := [.int (iI (t3 (mny nw nb W B))), .int (iI (k : Int))]) rfl (by rw [show sc 6308 = t3 (mny nw nb W B) from hsz]) ?_
    refine RQ.if2 (a := (k : Int)) (b := (t3 (mny nw nb W B))) rfl rfl rfl rfl (by omega) (by omega) (fun (q : t3 (mny nw nb W B) ≤ (k : Int)) => absurd q (show ¬ t3 (mny nw nb W B) ≤ (k : Int) from by omega)) (fun _ => ?_)
    refine RQ.seg 2 (pc' := 50) (L' := [some (.ref 77), some (.int (iI ((kbn nw nb W B Z k).2))), some (.int (iI (k : Int))), e3]) (st' := [.int (iI (k : Int)), .ref 77]) (g1 := (HW sc ar tx (j + 118) rl ou (otl tl j n f), q)) rfl ?_
    refine RQ.call rfl rfl (x_agrees (i := (k : Int)) hF hX hj hR (by omega) hZ hA) ?_
    refine RQ.seg 6 (pc' := 62) (L' := [some (.ref 77), some (.int (iI ((kbn nw nb W B Z k).2))), some (.int (iI (k : Int))), some (.int (iI (sof nw nb W B Z (k : Int))))]) (st' := [.int (iI (sof nw nb W B Z (k : Int))), .int (iI 33554432), .int (iI (k : Int)), .ref 63]) (g1 := (HW sc ar tx (j + 118) rl ou (otl tl j n f), q)) rfl ?_
    refine RQ.call rfl rfl (CallR.up (d := 1) (x_markE (d := 0) (i := (k : Int)) (v := sof nw nb W B Z (k : Int)) hF hX hj hR (by omega) (by omega)) (by omega)) ?_
    have hR1 := hR.me (k : Int) (v := sof nw nb W B Z (k : Int)) (by omega)
    refine RQ.seg 1 (pc' := 66) (L' := [some (.ref 77), some (.int (iI ((kbn nw nb W B Z k).2))), some (.int (iI (k : Int))), some (.int (iI (sof nw nb W B Z (k : Int))))]) (st' := [.int (iI (sof nw nb W B Z (k : Int)))]) (g1 := (HW sc ar tx (j + 118) rl ou (otl tl j n (usz f (k : Int) (pkm (oci nw nb W B (k : Int)) (r (k : Int)) (sof nw nb W B Z (k : Int))))), q)) rfl ?_
    refine RQ.if1 (a := (sof nw nb W B Z (k : Int))) rfl rfl rfl (by omega) (fun (h2 : sof nw nb W B Z (k : Int) = 0) => ?_) (fun (h2 : ¬ sof nw nb W B Z (k : Int) = 0) => ?_)
    · skip
      refine RQ.seg 2 (pc' := 37) (L' := [some (.ref 77), some (.int (iI ((kbn nw nb W B Z k).2))), some (.int ((iI (k : Int)) + (iI 1))), some (.int (iI (sof nw nb W B Z (k : Int))))]) (st' := []) (g1 := (HW sc ar tx (j + 118) rl ou (otl tl j n (usz f (k : Int) (pkm (oci nw nb W B (k : Int)) (r (k : Int)) (sof nw nb W B Z (k : Int))))), q)) rfl ?_
      refine RQ.to (L' := [some (.ref 77), some (.int (iI ((kbn nw nb W B Z k).2))), some (.int (iI ((k : Int) + 1))), some (.int (iI (sof nw nb W B Z (k : Int))))]) (st' := []) (by simp only [iI_add, iI_sub, iI_mul, iI_neg]) rfl ?_
      have e9 : kbn nw nb W B Z (k + 1) = ((kbn nw nb W B Z k).1, (kbn nw nb W B Z k).2) := by rw [kbn]; first | rw [if_pos (by omega)] | rw [if_neg (by omega)]
      have e10 := x_ef_l (K := K) (d := d) (tx := tx) (rl := rl) (ou := ou) (q := q) (Q := Q) hF hj hA m (k + 1) (sc) _ _ (some (.int (iI (sof nw nb W B Z (k : Int))))) (by omega) hX hZ (hR1.fl rfl rfl rfl) (fun i i0 i1 => ?_) (by rw [e9]; exact hkn) (fun sc' f' e' a1 a2 a3 a4 a5 => hk sc' f' e' (a1) a2 a3 a4 a5)
      · rw [e9] at e10; exact e10
      · by_cases e9 : i = (k : Int)
        · subst e9; exact usz_s _ _ _
        · rw [usz_n e9]; exact hmk i i0 (by omega)
    · skip
      refine RQ.seg 5 (pc' := 76) (L' := [some (.ref 77), some (.int (iI 1)), some (.int (iI (k : Int))), some (.int (iI (sof nw nb W B Z (k : Int))))]) (st' := [.int (iI (sc 7702)), .ref 77]) (g1 := (HW sc ar tx (j + 118) rl ou (otl tl j n (usz f (k : Int) (pkm (oci nw nb W B (k : Int)) (r (k : Int)) (sof nw nb W B Z (k : Int))))), q)) rfl ?_
      refine RQ.to (L' := [some (.ref 77), some (.int (iI 1)), some (.int (iI (k : Int))), some (.int (iI (sof nw nb W B Z (k : Int))))]) (st' := [.int (iI ((kbn nw nb W B Z k).1)), .ref 77]) rfl (by rw [show sc 7702 = (kbn nw nb W B Z k).1 from hkn]) ?_
      refine RQ.seg 4 (pc' := 84) (L' := [some (.ref 77), some (.int (iI 1)), some (.int (iI (k : Int))), some (.int (iI (sof nw nb W B Z (k : Int))))]) (st' := [.int (iI (k : Int)), .ref (j + 118), .int (iI ((kbn nw nb W B Z k).1)), .ref 77]) (g1 := (HW sc ar tx (j + 118) rl ou (otl tl j n (usz f (k : Int) (pkm (oci nw nb W B (k : Int)) (r (k : Int)) (sof nw nb W B Z (k : Int))))), q)) rfl ?_
      refine RQ.ialdv (z := (k : Int)) (v := (mko nw nb W B r (usz e (k : Int) (sof nw nb W B Z (k : Int))) (k : Int))) rfl rfl (HWo_r hj) (by omega) (by omega) (hR1.2.2.2.2.2 (k : Int) (by omega) (by omega)) ?_
      refine RQ.call rfl rfl (CallR.up (d := 2) (x_crossers (d := 0) (r := r) (e := (usz e (k : Int) (sof nw nb W B Z (k : Int)))) (i := (k : Int)) hF hr hR1.2.2.2.2.1.2) (by omega)) ?_
      refine RQ.iandn (a := (kbn nw nb W B Z k).1) (b := xcn nw nb W B (k : Int) nb.toNat) rfl rfl rfl (by omega) (by omega) ?_
      refine RQ.seg 3 (pc' := 37) (L' := [some (.ref 77), some (.int (iI 1)), some (.int ((iI (k : Int)) + (iI 1))), some (.int (iI (sof nw nb W B Z (k : Int))))]) (st' := []) (g1 := (HW (usc sc 7702 (andz (kbn nw nb W B Z k).1 (xcn nw nb W B (k : Int) nb.toNat))) ar tx (j + 118) rl ou (otl tl j n (usz f (k : Int) (pkm (oci nw nb W B (k : Int)) (r (k : Int)) (sof nw nb W B Z (k : Int))))), q)) rfl ?_
      refine RQ.to (L' := [some (.ref 77), some (.int (iI 1)), some (.int (iI ((k : Int) + 1))), some (.int (iI (sof nw nb W B Z (k : Int))))]) (st' := []) (by simp only [iI_add, iI_sub, iI_mul, iI_neg]) rfl ?_
      have e9 : kbn nw nb W B Z (k + 1) = (andz (kbn nw nb W B Z k).1 (xcn nw nb W B (k : Int) nb.toNat), 1) := by rw [kbn]; first | rw [if_pos (by omega)] | rw [if_neg (by omega)]
      have e10 := x_ef_l (K := K) (d := d) (tx := tx) (rl := rl) (ou := ou) (q := q) (Q := Q) hF hj hA m (k + 1) (usc sc 7702 (andz (kbn nw nb W B Z k).1 (xcn nw nb W B (k : Int) nb.toNat))) _ _ (some (.int (iI (sof nw nb W B Z (k : Int))))) (by omega) hX hZ (hR1.fl rfl rfl rfl) (fun i i0 i1 => ?_) (by rw [e9]; rfl) (fun sc' f' e' a1 a2 a3 a4 a5 => hk sc' f' e' (Same.tr (Same.us rfl Same.rf) a1) a2 a3 a4 a5)
      · rw [e9] at e10; exact e10
      · by_cases e9 : i = (k : Int)
        · subst e9; exact usz_s _ _ _
        · rw [usz_n e9]; exact hmk i i0 (by omega)
theorem x_efind {K : PK} {d : Nat} {sc : Nat → Int} {ar : Nat → Int → Int} {tx oc : Nat} {rl : Nat → Option Nat} {ou : Nat → Int64} {tl : List PO} {q : Nat × Nat} {nw nb : Int} {W B : Int → Int → Int} (hF : FrOK nw nb W B) (hX : FrX (sc 303) (sc 304) (ar 5) (ar 6) (ar 7) (ar 8) (ar 10) (ar 11) (ar 12) nw nb W B) (hnb : 0 < nb) {r e : Int → Int} {n : Nat} (hS : RwS nw nb W B r e n oc tl sc ar) {Z : SS} (hZ : SeO Z (sc 3105) (ar 32) (ar 33) (ar 34) (ar 35) (ar 36)) (hA : AsOK nw Z) (hfl : 0 ≤ sc 7703 ∧ sc 7703 ≤ 1) (hKE : sc 7703 = 1 → sc 6306 = 1 ∧ sc 7702 = knv nw nb W B Z ∧ ∀ i, 0 ≤ i → i < t3 (mny nw nb W B) → e i = sof nw nb W B Z i) : CQ K (d + 5) 11 [.ref 77] (HW sc ar tx oc rl ou tl, q) (fun rv g' => rv = none ∧ RwP nw nb W B oc n tl q tx rl ou g' (fun sc' ar' r' e' => Same exF sc sc' ∧ Same rnA ar ar' ∧ sc' 7703 = 1 ∧ sc' 7702 = knv nw nb W B Z ∧ (∀ i, 0 ≤ i → i < t3 (mny nw nb W B) → e' i = sof nw nb W B Z i) ∧ (sc 6306 = 1 → r' = r))) := by
  have hn := hF.1
  have hm1 := hX.1
  have hm2 := hX.2.1
  have hB := mny_b (nw := nw) (nb := nb) (W := W) (B := B) hF.1.2.1
  have ht3 := t3_r hB
  refine CQ.of (own := 1) (n := 4) (ini := false) (rt := none) (cd := cd11) (by decide +kernel) rfl (by decide +kernel) rfl (Nat.le_of_ble_eq_true rfl) ?_
  refine RQ.seg 2 (pc' := 4) (L' := [some (.ref 77), none, none, none]) (st' := [.int (iI (sc 7703))]) (g1 := (HW sc ar tx oc rl ou tl, q)) rfl ?_
  refine RQ.if1 (a := (sc 7703)) rfl rfl rfl (by omega) (fun (h1 : sc 7703 = 0) => ?_) (fun (h1 : ¬ sc 7703 = 0) => ?_)
  · skip
    refine RQ.seg 2 (pc' := 12) (L' := [some (.ref 77), none, none, none]) (st' := [.ref 63]) (g1 := (HW sc ar tx oc rl ou tl, q)) rfl ?_
    refine RQ.callQ rfl rfl ((x_findAll (d := 0) (sc := sc) (ar := ar) hF hX hnb hS).up (by omega)) (fun rv g1 hc => ?_)
    obtain ⟨rfl, sc1, ar1, j1, n1, f1, tl1, q1, r1, e1, rfl, hj1, hR1, htl1, hqn1, hs1, ha1, hre1⟩ := hc
    have hX1 := hX.sr hs1 ha1
    have hZ1 : SeO Z (sc1 3105) (ar1 32) (ar1 33) (ar1 34) (ar1 35) (ar1 36) := by rw [hs1 3105 rfl, ha1 32 rfl, ha1 33 rfl, ha1 34 rfl, ha1 35 rfl, ha1 36 rfl]; exact hZ
    have hnb1 : sc1 304 = nb := hX1.2.1
    refine RQ.seg 8 (pc' := 29) (L' := [some (.ref 77), some (.int (iI 0)), none, none]) (st' := [.int (iI (sc1 304)), .int (iI 1), .ref 77]) (g1 := (HW sc1 ar1 tx (j1 + 118) rl ou (otl tl1 j1 n1 f1), q1)) rfl ?_
    refine RQ.to (L' := [some (.ref 77), some (.int (iI 0)), none, none]) (st' := [.int (iI nb), .int (iI 1), .ref 77]) rfl (by rw [show sc1 304 = nb from hnb1]) ?_
    refine RQ.ishl1 (b := nb) rfl rfl rfl (by omega) ?_
    refine RQ.seg 2 (pc' := 32) (L' := [some (.ref 77), some (.int (iI 0)), none, none]) (st' := [.int ((iI (2 ^ nb.toNat)) - (iI 1)), .ref 77]) (g1 := (HW sc1 ar1 tx (j1 + 118) rl ou (otl tl1 j1 n1 f1), q1)) rfl ?_
    refine RQ.to (L' := [some (.ref 77), some (.int (iI 0)), none, none]) (st' := [.int (iI (2 ^ nb.toNat - 1)), .ref 77]) rfl (by simp only [iI_add, iI_sub, iI_mul, iI_neg]) ?_
    refine RQ.seg 3 (pc' := 37) (L' := [some (.ref 77), some (.int (iI 0)), some (.int (iI 0)), none]) (st' := []) (g1 := (HW (usc sc1 7702 (2 ^ nb.toNat - 1)) ar1 tx (j1 + 118) rl ou (otl tl1 j1 n1 f1), q1)) rfl ?_
    refine x_ef_l hF hj1 hA (t3 (mny nw nb W B)).toNat 0 (usc sc1 7702 (2 ^ nb.toNat - 1)) f1 e1 _ (by omega) hX1 hZ1 (hR1.fl rfl rfl rfl) (fun i i0 i1 => absurd i1 (by omega)) rfl (fun sc' f' e' a1 a2 a3 a4 a5 => ?_)
    exact ⟨rfl, sc', ar1, j1, n1, f', tl1, q1, r1, e', rfl, hj1, a4, htl1, hqn1, Same.tr (hs1.w rfl) (Same.tr (Same.us rfl Same.rf) (a1.w rfl)), ha1, a2, a3, a5, fun z => (hre1 z).1⟩
  · skip
    refine RQ.ret rfl rfl ?_
    obtain ⟨h61, h77, hmk⟩ := hKE (by omega)
    rcases hS with ⟨h1, j, f, rfl, hj, e0, hR⟩ | ⟨h0, _⟩
    · exact ⟨rfl, sc, ar, j, n, f, tl, q, r, e, congrArg (fun t => (HW sc ar tx (j + 118) rl ou t, q)) e0, hj, hR, ⟨Nat.le_refl _, fun _ _ _ => rfl, Or.inl rfl⟩, Or.inl ⟨rfl, rfl⟩, Same.rf, Same.rf, by omega, h77, hmk, fun _ => rfl⟩
    · exact absurd (h0.symm.trans h61) (by decide)
theorem x_explain {K : PK} {d : Nat} {sc : Nat → Int} {ar : Nat → Int → Int} {tx oc : Nat} {rl : Nat → Option Nat} {ou : Nat → Int64} {tl : List PO} {q : Nat × Nat} {i : Int} {nw nb : Int} {W B : Int → Int → Int} (hF : FrOK nw nb W B) (hX : FrX (sc 303) (sc 304) (ar 5) (ar 6) (ar 7) (ar 8) (ar 10) (ar 11) (ar 12) nw nb W B) (hnb : 0 < nb) {r e : Int → Int} {n : Nat} (hS : RwS nw nb W B r e n oc tl sc ar) {Z : SS} (hZ : SeO Z (sc 3105) (ar 32) (ar 33) (ar 34) (ar 35) (ar 36)) (hA : AsOK nw Z) (hfl : 0 ≤ sc 7703 ∧ sc 7703 ≤ 1) (hKE : sc 7703 = 1 → sc 6306 = 1 ∧ sc 7702 = knv nw nb W B Z ∧ ∀ i, 0 ≤ i → i < t3 (mny nw nb W B) → e i = sof nw nb W B Z i) (ri : -2147483648 ≤ i ∧ i < 2147483648) : CQ K (d + 6) 126 [.ref 0, .int (iI i)] (HW sc ar tx oc rl ou tl, q) (fun rv g' => rv = some (.int (iI (sExplain nw nb W B Z i))) ∧ RwP nw nb W B oc n tl q tx rl ou g' (fun sc' ar' r' e' => Same exF sc sc' ∧ Same rnA ar ar' ∧ sc' 7703 = 1 ∧ sc' 7702 = knv nw nb W B Z ∧ (∀ i, 0 ≤ i → i < t3 (mny nw nb W B) → e' i = sof nw nb W B Z i) ∧ (sc 6306 = 1 → r' = r))) := by
  have hn := hF.1
  have hm1 := hX.1
  have hm2 := hX.2.1
  have hB := mny_b (nw := nw) (nb := nb) (W := W) (B := B) hF.1.2.1
  have ht3 := t3_r hB
  refine CQ.of (own := 10) (n := 2) (ini := false) (rt := (some .int)) (cd := cd126) (by decide +kernel) rfl (by decide +kernel) rfl (Nat.le_of_ble_eq_true rfl) ?_
  refine RQ.seg 2 (pc' := 4) (L' := [some (.ref 0), some (.int (iI i))]) (st' := [.ref 3]) (g1 := (HW sc ar tx oc rl ou tl, q)) rfl ?_
  refine RQ.call rfl rfl (x_standsN_t hX hF hnb) ?_
  refine RQ.seg 3 (pc' := 16) (L' := [some (.ref 0), some (.int (iI i))]) (st' := [.ref 77]) (g1 := (HW sc ar tx oc rl ou tl, q)) rfl ?_
  refine RQ.callQ rfl rfl (x_efind hF hX hnb hS hZ hA hfl hKE) (fun rv g1 hc => ?_)
  obtain ⟨rfl, sc1, ar1, j1, n1, f1, tl1, q1, r1, e1, rfl, hj1, hR1, htl1, hqn1, hs1, ha1, h71, h77, hmk1, hrr1⟩ := hc
  have hX1 : FrX (sc1 303) (sc1 304) (ar1 5) (ar1 6) (ar1 7) (ar1 8) (ar1 10) (ar1 11) (ar1 12) nw nb W B := by rw [hs1 303 rfl, hs1 304 rfl, ha1 5 rfl, ha1 6 rfl, ha1 7 rfl, ha1 8 rfl, ha1 10 rfl, ha1 11 rfl, ha1 12 rfl]; exact hX
  refine RQ.seg 4 (pc' := 27) (L' := [some (.ref 0), some (.int (iI i))]) (st' := [.int (iI i), .int (iI 33554432), .ref 63]) (g1 := (HW sc1 ar1 tx (j1 + 118) rl ou (otl tl1 j1 n1 f1), q1)) rfl ?_
  refine RQ.call rfl rfl (CallR.up (d := 3) (x_markedRowE (d := 0) (i := i) hF hX1 hj1 hR1 ri) (by omega)) ?_
  refine RQ.ret rfl rfl ?_
  refine ⟨?_, sc1, ar1, j1, n1, f1, tl1, q1, r1, e1, rfl, hj1, hR1, htl1, hqn1, hs1, ha1, h71, h77, hmk1, hrr1⟩
  congr 3; unfold sExplain; rw [if_pos hnb]; exact pik_c hmk1 (fun _ _ _ => rfl) (t3 (mny nw nb W B)).toNat 0 0 (by omega) (by omega)
theorem x_knocked {K : PK} {d : Nat} {sc : Nat → Int} {ar : Nat → Int → Int} {tx oc : Nat} {rl : Nat → Option Nat} {ou : Nat → Int64} {tl : List PO} {q : Nat × Nat} {nw nb : Int} {W B : Int → Int → Int} (hF : FrOK nw nb W B) (hX : FrX (sc 303) (sc 304) (ar 5) (ar 6) (ar 7) (ar 8) (ar 10) (ar 11) (ar 12) nw nb W B) (hnb : 0 < nb) {r e : Int → Int} {n : Nat} (hS : RwS nw nb W B r e n oc tl sc ar) {Z : SS} (hZ : SeO Z (sc 3105) (ar 32) (ar 33) (ar 34) (ar 35) (ar 36)) (hA : AsOK nw Z) (hfl : 0 ≤ sc 7703 ∧ sc 7703 ≤ 1) (hKE : sc 7703 = 1 → sc 6306 = 1 ∧ sc 7702 = knv nw nb W B Z ∧ ∀ i, 0 ≤ i → i < t3 (mny nw nb W B) → e i = sof nw nb W B Z i) : CQ K (d + 6) 127 [.ref 0] (HW sc ar tx oc rl ou tl, q) (fun rv g' => rv = some (.int (iI (sKnocked nw nb W B Z))) ∧ RwP nw nb W B oc n tl q tx rl ou g' (fun sc' ar' r' e' => Same exF sc sc' ∧ Same rnA ar ar' ∧ sc' 7703 = 1 ∧ sc' 7702 = knv nw nb W B Z ∧ (∀ i, 0 ≤ i → i < t3 (mny nw nb W B) → e' i = sof nw nb W B Z i) ∧ (sc 6306 = 1 → r' = r))) := by
  have hn := hF.1
  have hm1 := hX.1
  have hm2 := hX.2.1
  have hB := mny_b (nw := nw) (nb := nb) (W := W) (B := B) hF.1.2.1
  have ht3 := t3_r hB
  refine CQ.of (own := 10) (n := 1) (ini := false) (rt := (some .int)) (cd := cd127) (by decide +kernel) rfl (by decide +kernel) rfl (Nat.le_of_ble_eq_true rfl) ?_
  refine RQ.seg 2 (pc' := 4) (L' := [some (.ref 0)]) (st' := [.ref 3]) (g1 := (HW sc ar tx oc rl ou tl, q)) rfl ?_
  refine RQ.call rfl rfl (x_standsN_t hX hF hnb) ?_
  refine RQ.seg 3 (pc' := 16) (L' := [some (.ref 0)]) (st' := [.ref 77]) (g1 := (HW sc ar tx oc rl ou tl, q)) rfl ?_
  refine RQ.callQ rfl rfl (x_efind hF hX hnb hS hZ hA hfl hKE) (fun rv g1 hc => ?_)
  obtain ⟨rfl, sc1, ar1, j1, n1, f1, tl1, q1, r1, e1, rfl, hj1, hR1, htl1, hqn1, hs1, ha1, h71, h77, hmk1, hrr1⟩ := hc
  have hX1 : FrX (sc1 303) (sc1 304) (ar1 5) (ar1 6) (ar1 7) (ar1 8) (ar1 10) (ar1 11) (ar1 12) nw nb W B := by rw [hs1 303 rfl, hs1 304 rfl, ha1 5 rfl, ha1 6 rfl, ha1 7 rfl, ha1 8 rfl, ha1 10 rfl, ha1 11 rfl, ha1 12 rfl]; exact hX
  refine RQ.seg 3 (pc' := 26) (L' := [some (.ref 0)]) (st' := [.int (iI (sc1 7702))]) (g1 := (HW sc1 ar1 tx (j1 + 118) rl ou (otl tl1 j1 n1 f1), q1)) rfl ?_
  refine RQ.ret rfl rfl ?_
  refine ⟨?_, sc1, ar1, j1, n1, f1, tl1, q1, r1, e1, rfl, hj1, hR1, htl1, hqn1, hs1, ha1, h71, h77, hmk1, hrr1⟩
  rw [h77]; congr 3; unfold sKnocked; rw [if_pos hnb]
theorem x_explain_f {K : PK} {d : Nat} {sc : Nat → Int} {ar : Nat → Int → Int} {tx oc : Nat} {rl : Nat → Option Nat} {ou : Nat → Int64} {tl : List PO} {q : Nat × Nat} {nw nb : Int} {W B : Int → Int → Int} (hF : FrOK nw nb W B) (hX : FrX (sc 303) (sc 304) (ar 5) (ar 6) (ar 7) (ar 8) (ar 10) (ar 11) (ar 12) nw nb W B) {i : Int} (ri : -2147483648 ≤ i ∧ i < 2147483648) (hN : ¬ 0 < nb) : CallR K (d + 2) 126 [.ref 0, .int (iI i)] (HW sc ar tx oc rl ou tl, q) (some (.int (iI (-1)))) (HW sc ar tx oc rl ou tl, q) := by
  apply CQ.x
  have hn := hF.1
  have hm1 := hX.1
  have hm2 := hX.2.1
  refine CQ.of (own := 10) (n := 2) (ini := false) (rt := (some .int)) (cd := cd126) (by decide +kernel) rfl (by decide +kernel) rfl (Nat.le_of_ble_eq_true rfl) ?_
  refine RQ.seg 2 (pc' := 4) (L' := [some (.ref 0), some (.int (iI i))]) (st' := [.ref 3]) (g1 := (HW sc ar tx oc rl ou tl, q)) rfl ?_
  rcases Decidable.em (0 < nb) with h1 | h1
  · skip
    refine RQ.call rfl rfl (x_standsN_t hX hF h1) ?_
    refine RQ.seg 3 (pc' := 16) (L' := [some (.ref 0), some (.int (iI i))]) (st' := [.ref 77]) (g1 := (HW sc ar tx oc rl ou tl, q)) rfl ?_
    exfalso; omega
  · skip
    refine RQ.call rfl rfl (x_standsN_f hX hF h1) ?_
    refine RQ.seg 2 (pc' := 11) (L' := [some (.ref 0), some (.int (iI i))]) (st' := [.int (iI (-1))]) (g1 := (HW sc ar tx oc rl ou tl, q)) rfl ?_
    refine RQ.ret rfl rfl ?_
    exact ⟨rfl, rfl⟩
theorem x_knocked_f {K : PK} {d : Nat} {sc : Nat → Int} {ar : Nat → Int → Int} {tx oc : Nat} {rl : Nat → Option Nat} {ou : Nat → Int64} {tl : List PO} {q : Nat × Nat} {nw nb : Int} {W B : Int → Int → Int} (hF : FrOK nw nb W B) (hX : FrX (sc 303) (sc 304) (ar 5) (ar 6) (ar 7) (ar 8) (ar 10) (ar 11) (ar 12) nw nb W B)  (hN : ¬ 0 < nb) : CallR K (d + 2) 127 [.ref 0] (HW sc ar tx oc rl ou tl, q) (some (.int (iI (-1)))) (HW sc ar tx oc rl ou tl, q) := by
  apply CQ.x
  have hn := hF.1
  have hm1 := hX.1
  have hm2 := hX.2.1
  refine CQ.of (own := 10) (n := 1) (ini := false) (rt := (some .int)) (cd := cd127) (by decide +kernel) rfl (by decide +kernel) rfl (Nat.le_of_ble_eq_true rfl) ?_
  refine RQ.seg 2 (pc' := 4) (L' := [some (.ref 0)]) (st' := [.ref 3]) (g1 := (HW sc ar tx oc rl ou tl, q)) rfl ?_
  rcases Decidable.em (0 < nb) with h1 | h1
  · skip
    refine RQ.call rfl rfl (x_standsN_t hX hF h1) ?_
    refine RQ.seg 3 (pc' := 16) (L' := [some (.ref 0)]) (st' := [.ref 77]) (g1 := (HW sc ar tx oc rl ou tl, q)) rfl ?_
    exfalso; omega
  · skip
    refine RQ.call rfl rfl (x_standsN_f hX hF h1) ?_
    refine RQ.seg 2 (pc' := 11) (L' := [some (.ref 0)]) (st' := [.int (iI (-1))]) (g1 := (HW sc ar tx oc rl ou tl, q)) rfl ?_
    refine RQ.ret rfl rfl ?_
    exact ⟨rfl, rfl⟩
