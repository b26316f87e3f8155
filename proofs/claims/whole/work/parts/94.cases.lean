/-! calls of both sides: what leaves scratch alone, by wip/tools -/
def KOK (K : PK) : Prop := K 0 = some (4, zA kc0) ∧ K 1 = some (3, zA kc1) ∧ K 2 = some (4, zA kc2) ∧ K 3 = some (6, zA kc3) ∧ K 4 = some (4, zA kc4) ∧ K 5 = some (4, zA kc5) ∧ K 6 = some (4, zA kc6) ∧ K 7 = some (4, zA kc7) ∧ K 8 = some (3, zA kc8) ∧ K 9 = some (3, zA kc9) ∧ K 10 = some (3, zA kc10) ∧ K 11 = some (4, zA kc11) ∧ K 12 = some (4, zA kc12) ∧ K 13 = some (3, zA kc13)
theorem x_fault0 {K : PK} {d : Nat} {sc : Nat → Int} {ar : Nat → Int → Int} {tx oc : Nat} {rl : Nat → Option Nat} {ou : Nat → Int64} {tl : List PO} {q : Nat × Nat} {tp : List Int} (ht : TpOK tp) (hs : sc 101 = (tp.length : Int)) (hl : LAt (fun v => v) (ar 2) tp) (hKK : KOK K) : CQ K (d + 7) 107 [.ref 0, .int (iI 0)] (HW sc ar tx oc rl ou tl, q) (fun r g' => r = some (.int (iI (frF tp))) ∧ ∃ sc' ar', g' = (HW sc' ar' tx oc rl ou tl, q) ∧ Same scF sc sc' ∧ Same scA ar ar') := by
  obtain ⟨hK0, hK1, hK2, hK3, hK4, hK5, hK6, hK7, hK8, hK9, hK10, hK11, hK12, hK13⟩ := hKK
  refine CQ.of (own := 10) (n := 2) (ini := false) (rt := (some .int)) (cd := cd107) (by decide +kernel) rfl (by decide +kernel) rfl (Nat.le_of_ble_eq_true rfl) ?_
  refine RQ.seg 4 (pc' := 8) (L' := [some (.ref 0), some (.int (iI 0))]) (st' := [.ref 14]) (g1 := (HW sc ar tx oc rl ou tl, q)) rfl ?_
  refine RQ.callQ rfl rfl (CQ.up (x_fwrong (d := 0) ht hs hl hK0 hK1 hK2 hK4 hK5 hK6 hK7 hK8 hK9 hK10 hK11 hK12) (by omega)) (fun rv9 g9 hc9 => ?_)
  obtain ⟨rfl, sc1, ar1, rfl, hs1, ha1, -⟩ := hc9
  refine RQ.ret rfl rfl ?_
  exact ⟨rfl, _, _, rfl, hs1, ha1⟩
theorem x_fault1 {K : PK} {d : Nat} {sc : Nat → Int} {ar : Nat → Int → Int} {tx oc : Nat} {rl : Nat → Option Nat} {ou : Nat → Int64} {tl : List PO} {q : Nat × Nat} {tp : List Int} (ht : TpOK tp) (hs : sc 101 = (tp.length : Int)) (hl : LAt (fun v => v) (ar 2) tp) (hKK : KOK K) : CQ K (d + 49) 107 [.ref 0, .int (iI 1)] (HW sc ar tx oc rl ou tl, q) (fun r g' => r = some (.int (iI (rlF tp))) ∧ ∃ sc' ar', g' = (HW sc' ar' tx oc rl ou tl, q) ∧ Same scF sc sc' ∧ Same scA ar ar') := by
  obtain ⟨hK0, hK1, hK2, hK3, hK4, hK5, hK6, hK7, hK8, hK9, hK10, hK11, hK12, hK13⟩ := hKK
  refine CQ.of (own := 10) (n := 2) (ini := false) (rt := (some .int)) (cd := cd107) (by decide +kernel) rfl (by decide +kernel) rfl (Nat.le_of_ble_eq_true rfl) ?_
  refine RQ.seg 7 (pc' := 21) (L' := [some (.ref 0), some (.int (iI 1))]) (st' := [.ref 26]) (g1 := (HW sc ar tx oc rl ou tl, q)) rfl ?_
  refine RQ.callQ rfl rfl (CQ.up (x_rwrong (d := 0) ht hs hl hK3 hK13) (by omega)) (fun rv9 g9 hc9 => ?_)
  obtain ⟨rfl, sc1, ar1, rfl, hs1, ha1, -⟩ := hc9
  refine RQ.ret rfl rfl ?_
  exact ⟨rfl, _, _, rfl, Same.w rfl hs1, Same.w rfl ha1⟩
theorem x_faultN {K : PK} {d : Nat} {sc : Nat → Int} {ar : Nat → Int → Int} {tx oc : Nat} {rl : Nat → Option Nat} {ou : Nat → Int64} {tl : List PO} {q : Nat × Nat} {a : Int} (ra : -2147483648 ≤ a ∧ a < 2147483648) (h0 : ¬ a = 0) (h1 : ¬ a = 1) : CallR K (d + 1) 107 [.ref 0, .int (iI a)] (HW sc ar tx oc rl ou tl, q) (some (.int (iI (-2)))) (HW sc ar tx oc rl ou tl, q) := by
  apply CQ.x
  refine CQ.of (own := 10) (n := 2) (ini := false) (rt := (some .int)) (cd := cd107) (by decide +kernel) rfl (by decide +kernel) rfl (Nat.le_of_ble_eq_true rfl) ?_
  refine RQ.seg 1 (pc' := 1) (L' := [some (.ref 0), some (.int (iI a))]) (st' := [.int (iI a)]) (g1 := (HW sc ar tx oc rl ou tl, q)) rfl ?_
  refine RQ.if1 (a := a) rfl rfl rfl (by omega) (fun _ => ?_) (fun (q : ¬ a ≠ 0) => absurd (show a ≠ 0 from by omega) q)
  refine RQ.seg 2 (pc' := 14) (L' := [some (.ref 0), some (.int (iI a))]) (st' := [.int (iI 1), .int (iI a)]) (g1 := (HW sc ar tx oc rl ou tl, q)) rfl ?_
  refine RQ.if2 (a := a) (b := 1) rfl rfl rfl rfl (by omega) (by omega) (fun _ => ?_) (fun (q : ¬ a ≠ 1) => absurd (show a ≠ 1 from by omega) q)
  refine RQ.seg 1 (pc' := 27) (L' := [some (.ref 0), some (.int (iI a))]) (st' := [.int (iI (-2))]) (g1 := (HW sc ar tx oc rl ou tl, q)) rfl ?_
  refine RQ.ret rfl rfl ?_
  exact ⟨rfl, rfl⟩
theorem x_textN {K : PK} {d : Nat} {sc : Nat → Int} {ar : Nat → Int → Int} {tx oc : Nat} {rl : Nat → Option Nat} {ou : Nat → Int64} {tl : List PO} {q : Nat × Nat} {a : Int} (ra : -2147483648 ≤ a ∧ a < 2147483648) (h0 : ¬ a = 0) (h1 : ¬ a = 1) : CallR K (d + 1) 108 [.ref 0, .int (iI a)] (HW sc ar tx oc rl ou tl, q) (some (.int (iI (-1)))) (HW sc ar tx oc rl ou tl, q) := by
  apply CQ.x
  refine CQ.of (own := 10) (n := 2) (ini := false) (rt := (some .int)) (cd := cd108) (by decide +kernel) rfl (by decide +kernel) rfl (Nat.le_of_ble_eq_true rfl) ?_
  refine RQ.seg 1 (pc' := 1) (L' := [some (.ref 0), some (.int (iI a))]) (st' := [.int (iI a)]) (g1 := (HW sc ar tx oc rl ou tl, q)) rfl ?_
  refine RQ.if1 (a := a) rfl rfl rfl (by omega) (fun _ => ?_) (fun (q : ¬ a ≠ 0) => absurd (show a ≠ 0 from by omega) q)
  refine RQ.seg 2 (pc' := 11) (L' := [some (.ref 0), some (.int (iI a))]) (st' := [.int (iI 1), .int (iI a)]) (g1 := (HW sc ar tx oc rl ou tl, q)) rfl ?_
  refine RQ.if2 (a := a) (b := 1) rfl rfl rfl rfl (by omega) (by omega) (fun _ => ?_) (fun (q : ¬ a ≠ 1) => absurd (show a ≠ 1 from by omega) q)
  refine RQ.seg 1 (pc' := 20) (L' := [some (.ref 0), some (.int (iI a))]) (st' := [.int (iI (-1))]) (g1 := (HW sc ar tx oc rl ou tl, q)) rfl ?_
  refine RQ.ret rfl rfl ?_
  exact ⟨rfl, rfl⟩
theorem x_text0 {K : PK} {d : Nat} {sc : Nat → Int} {ar : Nat → Int → Int} {tx oc : Nat} {rl : Nat → Option Nat} {ou : Nat → Int64} {tl : List PO} {q : Nat × Nat} {tp : List Int} (ht : TpOK tp) (hs : sc 101 = (tp.length : Int)) (hl : LAt (fun v => v) (ar 2) tp) (hKK : KOK K) : CQ K (d + 8) 108 [.ref 0, .int (iI 0)] (HW sc ar tx oc rl ou tl, q) (fun r g' => r = some (.int (iI (sText0 tp))) ∧ ∃ sc' ar', g' = (HW sc' ar' tx oc rl ou tl, q) ∧ Same tkF sc sc' ∧ Same tkA ar ar' ∧ (frF tp = -1 → FsOK tp (fr9 tp) ∧ FrX (sc' 303) (sc' 304) (ar' 5) (ar' 6) (ar' 7) (ar' 8) (ar' 10) (ar' 11) (ar' 12) (fW (fr9 tp)) (fB (fr9 tp)) (gW (fr9 tp)) (gB (fr9 tp)) ∧ (∀ j, 0 ≤ j → j < 4 → ar' 13 j = gL (fr9 tp) j) ∧ SeX (zB (gL (fr9 tp))) sc' ar' ∧ sc' 101 = 0 ∧ sc' 8 = 0 ∧ sc' 6306 = 0 ∧ sc' 7205 = 0 ∧ sc' 7206 = 0 ∧ sc' 7207 = 0 ∧ sc' 7703 = 0) ∧ (frF tp ≠ -1 → Same scF sc sc' ∧ Same scA ar ar')) := by
  obtain ⟨hK0, hK1, hK2, hK3, hK4, hK5, hK6, hK7, hK8, hK9, hK10, hK11, hK12, hK13⟩ := hKK
  refine CQ.of (own := 10) (n := 2) (ini := false) (rt := (some .int)) (cd := cd108) (by decide +kernel) rfl (by decide +kernel) rfl (Nat.le_of_ble_eq_true rfl) ?_
  refine RQ.seg 3 (pc' := 5) (L' := [some (.ref 0), some (.int (iI 0))]) (st' := [.ref 0]) (g1 := (HW sc ar tx oc rl ou tl, q)) rfl ?_
  refine RQ.callQ rfl rfl (CQ.up (x_takeFront (d := 0) ht hs hl hK0 hK1 hK2 hK4 hK5 hK6 hK7 hK8 hK9 hK10 hK11 hK12) (by omega)) (fun rv9 g9 hc9 => ?_)
  obtain ⟨rfl, hc8⟩ := hc9
  exact RQ.ret rfl rfl ⟨rfl, hc8⟩
theorem x_text1 {K : PK} {d : Nat} {sc : Nat → Int} {ar : Nat → Int → Int} {tx oc : Nat} {rl : Nat → Option Nat} {ou : Nat → Int64} {tl : List PO} {q : Nat × Nat} {tp : List Int} (ht : TpOK tp) (hs : sc 101 = (tp.length : Int)) (hl : LAt (fun v => v) (ar 2) tp) (hKK : KOK K) (rc : 0 ≤ sc 5 ∧ sc 5 ≤ 4) : CQ K (d + 50) 108 [.ref 0, .int (iI 1)] (HW sc ar tx oc rl ou tl, q) (fun r g' => r = some (.int (iI (sText1 (sc 5) tp))) ∧ ∃ sc' ar', Same (5 :: 101 :: ruF) sc sc' ∧ Same ruA ar ar' ∧ ((sc 5 < 4 ∧ rlF tp = -1 ∧ sc' 5 = sc 5 + 1 ∧ sc' 101 = 0 ∧ (rl9 tp).2.2.length ≤ 160 ∧ ∃ f, LAt (fun v => v) f (rl9 tp).2.2 ∧ g' = (HW sc' ar' tx oc (va_up rl (sc 5).toNat (some (tl.length + 118))) ou (tl ++ [rcC tl.length ((rl9 tp).2.2.length : Int) 0, .inl (0, 64, .inl (zA fun _ => 0)), .inl (0, (rl9 tp).2.2.length, .inl (zA f))]), (q.1 + 1 + 1 + 1, q.2 + 4 + 64 + (rl9 tp).2.2.length))) ∨ (¬ (sc 5 < 4 ∧ rlF tp = -1) ∧ sc' 5 = sc 5 ∧ sc' 101 = sc 101 ∧ g' = (HW sc' ar' tx oc rl ou tl, q)))) := by
  obtain ⟨hK0, hK1, hK2, hK3, hK4, hK5, hK6, hK7, hK8, hK9, hK10, hK11, hK12, hK13⟩ := hKK
  refine CQ.of (own := 10) (n := 2) (ini := false) (rt := (some .int)) (cd := cd108) (by decide +kernel) rfl (by decide +kernel) rfl (Nat.le_of_ble_eq_true rfl) ?_
  refine RQ.seg 6 (pc' := 15) (L' := [some (.ref 0), some (.int (iI 1))]) (st' := [.ref 0]) (g1 := (HW sc ar tx oc rl ou tl, q)) rfl ?_
  refine RQ.callQ rfl rfl (CQ.up (x_takeRule (d := 0) ht hs hl hK3 hK13 rc) (by omega)) (fun rv9 g9 hc9 => ?_)
  obtain ⟨rfl, hc8⟩ := hc9
  exact RQ.ret rfl rfl ⟨rfl, hc8⟩
theorem m_textN {K : PK} {d : Nat} {sc : Nat → Int} {ar : Nat → Int → Int} {tx oc : Nat} {rl : Nat → Option Nat} {ou : Nat → Int64} {tl : List PO} {q : Nat × Nat} {a : Int} (ra : -2147483648 ≤ a ∧ a < 2147483648) (ha : ¬ (0 ≤ a ∧ a ≤ 1)) : CallR K (d + 2) 183 [.ref 80, .int (iI a)] (HW sc ar tx oc rl ou tl, q) (some (.int (iI (-1)))) (HW (usc sc 8000 0) ar tx oc rl ou tl, q) := by
  apply CQ.x
  refine CQ.of (own := 11) (n := 4) (ini := false) (rt := (some .int)) (cd := cd183) (by decide +kernel) rfl (by decide +kernel) rfl (Nat.le_of_ble_eq_true rfl) ?_
  refine RQ.seg 4 (pc' := 6) (L' := [some (.ref 80), some (.int (iI a)), none, none]) (st' := [.int (iI a)]) (g1 := (HW (usc sc 8000 0) ar tx oc rl ou tl, q)) rfl ?_
  refine RQ.seg 1 (pc' := 7) (L' := [some (.ref 80), some (.int (iI a)), none, none]) (st' := [.long ((iI a).toInt64)]) (g1 := (HW (usc sc 8000 0) ar tx oc rl ou tl, q)) rfl ?_
  refine RQ.to (L' := [some (.ref 80), some (.int (iI a)), none, none]) (st' := [.long (lL a)]) rfl (by rw [iI_64 (by omega)]) ?_
  refine RQ.seg 2 (pc' := 9) (L' := [some (.ref 80), some (.int (iI a)), none, none]) (st' := [.long (lL 1), .long (lL 0), .long (lL a)]) (g1 := (HW (usc sc 8000 0) ar tx oc rl ou tl, q)) rfl ?_
  refine RQ.call rfl rfl (CallR.up (d := 1) (m_isIn_f (d := 0) (a := a) (b := 0) (c := 1) (by omega) (by omega) (by omega) (by omega)) (by omega)) ?_
  refine RQ.seg 2 (pc' := 38) (L' := [some (.ref 80), some (.int (iI a)), none, none]) (st' := [.int (iI (-1))]) (g1 := (HW (usc sc 8000 0) ar tx oc rl ou tl, q)) rfl ?_
  refine RQ.ret rfl rfl ?_
  exact ⟨rfl, rfl⟩
section Acc
variable {i : Nat} {tp : List Int} {nw nb : Int} {W B : Int → Int → Int} {Z Zk : SS} {rs : List (List Int)} {J : Nat → Nat} {r e : Int → Int} {n : Nat} {sc : Nat → Int} {ar : Nat → Int → Int} {oc : Nat} {rl : Nat → Option Nat} {tl : List PO} {q : Nat × Nat}
theorem INx.F (h : INx i tp nw nb W B Z Zk rs J r e n sc ar oc rl tl q) : FrOK nw nb W B := h.2.1
theorem INx.X (h : INx i tp nw nb W B Z Zk rs J r e n sc ar oc rl tl q) : FrX (sc 303) (sc 304) (ar 5) (ar 6) (ar 7) (ar 8) (ar 10) (ar 11) (ar 12) nw nb W B := h.2.2.2.2.1.1
theorem INx.M (h : INx i tp nw nb W B Z Zk rs J r e n sc ar oc rl tl q) : FrM (sc 8024) (sc 8025) (ar 85) (ar 86) nw nb W B := h.2.2.2.2.1.2.1
theorem INx.P (h : INx i tp nw nb W B Z Zk rs J r e n sc ar oc rl tl q) : PMx nw nb W B (ar 94) (ar 95) := h.2.2.2.2.1.2.2
theorem INx.lx (h : INx i tp nw nb W B Z Zk rs J r e n sc ar oc rl tl q) : ∀ j, 0 ≤ j → j < 4 → ar 32 j = zL Z j := h.2.2.2.2.2.1.1.1
theorem INx.lm (h : INx i tp nw nb W B Z Zk rs J r e n sc ar oc rl tl q) : ∀ j, 0 ≤ j → j < 4 → ar 87 j = zL Z j := h.2.2.2.2.2.2.1.1.1
theorem INx.L (h : INx i tp nw nb W B Z Zk rs J r e n sc ar oc rl tl q) : LwOK (zL Z) := h.2.2.2.2.2.2.2.1.1.1
theorem INx.nx (h : INx i tp nw nb W B Z Zk rs J r e n sc ar oc rl tl q) : NtX (zD Z) sc ar := h.2.2.2.2.2.1.2
theorem INx.nm (h : INx i tp nw nb W B Z Zk rs J r e n sc ar oc rl tl q) : NtM nb (zD Z) sc ar := h.2.2.2.2.2.2.1.2
theorem INx.nt (h : INx i tp nw nb W B Z Zk rs J r e n sc ar oc rl tl q) : NtOK nb (zD Z) := h.2.2.2.2.2.2.2.1.1.2.2
theorem INx.g1 (h : INx i tp nw nb W B Z Zk rs J r e n sc ar oc rl tl q) : sc 101 = (tp.length : Int) ∧ LAt (fun v => v) (ar 2) tp := h.2.2.1
theorem INx.g2 (h : INx i tp nw nb W B Z Zk rs J r e n sc ar oc rl tl q) : sc 8006 = (tp.length : Int) ∧ LAt sgb (ar 81) tp := h.2.2.2.1
end Acc
theorem bo_told {K : PK} {i : Nat} {g : PG} (h : INV i g) {row b j : Int} (rrow : -2147483648 ≤ row ∧ row < 2147483648) (rb : -2147483648 ≤ b ∧ b < 2147483648) (rj : -2147483648 ≤ j ∧ j < 2147483648) : Both K 115 199 [.int (iI row), .int (iI b), .int (iI j)] i g := by
  obtain ⟨sc, ar, tx, oc, rl, ou, tl, q, tp, nw, nb, W, B, Z, Zk, rs, J, r, e, n, rfl, hI⟩ := h
  exact both_s hI (CQ.up (x_told (d := 0) hI.F hI.X hI.lx hI.L rrow rb rj) (by omega)) (fun sc' ar' hI' => CQ.t (CQ.up (m_told (d := 0) hI'.F hI'.M hI'.P hI'.lm hI'.L rrow rb rj) (by omega)))
theorem bo_all {K : PK} {i : Nat} {g : PG} (h : INV i g) {row j : Int} (rrow : -2147483648 ≤ row ∧ row < 2147483648) (rj : -2147483648 ≤ j ∧ j < 2147483648) : Both K 116 200 [.int (iI row), .int (iI j)] i g := by
  obtain ⟨sc, ar, tx, oc, rl, ou, tl, q, tp, nw, nb, W, B, Z, Zk, rs, J, r, e, n, rfl, hI⟩ := h
  exact both_s hI (CQ.up (x_all (d := 0) hI.F hI.X hI.lx hI.L rrow rj) (by omega)) (fun sc' ar' hI' => CQ.t (CQ.up (m_all (d := 0) hI'.F hI'.M hI'.P hI'.lm hI'.L rrow rj) (by omega)))
theorem bo_child {K : PK} {i : Nat} {g : PG} (h : INV i g) {row c j : Int} (rrow : -2147483648 ≤ row ∧ row < 2147483648) (rc : -2147483648 ≤ c ∧ c < 2147483648) (rj : -2147483648 ≤ j ∧ j < 2147483648) : Both K 117 201 [.int (iI row), .int (iI c), .int (iI j)] i g := by
  obtain ⟨sc, ar, tx, oc, rl, ou, tl, q, tp, nw, nb, W, B, Z, Zk, rs, J, r, e, n, rfl, hI⟩ := h
  exact both_s hI (CQ.up (x_child (d := 0) hI.F hI.X hI.lx hI.L rrow rc rj) (by omega)) (fun sc' ar' hI' => CQ.t (CQ.up (m_child (d := 0) hI'.F hI'.M hI'.P hI'.lm hI'.L rrow rc rj) (by omega)))
theorem bo_best {K : PK} {i : Nat} {g : PG} (h : INV i g) {row b j : Int} (rrow : -2147483648 ≤ row ∧ row < 2147483648) (rb : -2147483648 ≤ b ∧ b < 2147483648) (rj : -2147483648 ≤ j ∧ j < 2147483648) : Both K 118 202 [.int (iI row), .int (iI b), .int (iI j)] i g := by
  obtain ⟨sc, ar, tx, oc, rl, ou, tl, q, tp, nw, nb, W, B, Z, Zk, rs, J, r, e, n, rfl, hI⟩ := h
  exact both_s hI (CQ.up (x_best (d := 0) hI.F hI.X hI.lx hI.L rrow rb rj) (by omega)) (fun sc' ar' hI' => CQ.t (CQ.up (m_best (d := 0) hI'.F hI'.M hI'.P hI'.lm hI'.L rrow rb rj) (by omega)))
theorem bo_alone {K : PK} {i : Nat} {g : PG} (h : INV i g) {b j : Int} (rb : -2147483648 ≤ b ∧ b < 2147483648) (rj : -2147483648 ≤ j ∧ j < 2147483648) : Both K 130 226 [.int (iI b), .int (iI j)] i g := by
  obtain ⟨sc, ar, tx, oc, rl, ou, tl, q, tp, nw, nb, W, B, Z, Zk, rs, J, r, e, n, rfl, hI⟩ := h
  exact both_s hI (CQ.up (x_alone (d := 0) hI.F hI.X rb rj) (by omega)) (fun sc' ar' hI' => CQ.t (CQ.up (m_alone (d := 0) hI'.F hI'.M hI'.P hI'.lm hI'.L rb rj) (by omega)))
theorem bo_reaches {K : PK} {i : Nat} {g : PG} (h : INV i g) {b p : Int} (rb : -2147483648 ≤ b ∧ b < 2147483648) (rp : -2147483648 ≤ p ∧ p < 2147483648) : Both K 114 193 [.int (iI b), .int (iI p)] i g := by
  obtain ⟨sc, ar, tx, oc, rl, ou, tl, q, tp, nw, nb, W, B, Z, Zk, rs, J, r, e, n, rfl, hI⟩ := h
  exact both_s hI (CQ.s0 (CallR.up (x_reaches (d := 0) hI.F hI.X rb rp) (by omega))) (fun sc' ar' hI' => CQ.t (CQ.s8 (CallR.up (m_reaches (d := 0) hI'.F hI'.M rb rp) (by omega))))
theorem bo_reach {K : PK} {i : Nat} {g : PG} (h : INV i g) {b : Int} (rb : -2147483648 ≤ b ∧ b < 2147483648) : Both K 129 225 [.int (iI b)] i g := by
  obtain ⟨sc, ar, tx, oc, rl, ou, tl, q, tp, nw, nb, W, B, Z, Zk, rs, J, r, e, n, rfl, hI⟩ := h
  exact both_s hI (CQ.s0 (CallR.up (x_reach (d := 0) hI.F hI.X rb) (by omega))) (fun sc' ar' hI' => CQ.t (CQ.s8 (CallR.up (m_reach (d := 0) hI'.F hI'.M rb) (by omega))))
theorem bo_joined {K : PK} {i : Nat} {g : PG} (h : INV i g) {b c : Int} (rb : -2147483648 ≤ b ∧ b < 2147483648) (rc : -2147483648 ≤ c ∧ c < 2147483648) : Both K 128 224 [.int (iI b), .int (iI c)] i g := by
  obtain ⟨sc, ar, tx, oc, rl, ou, tl, q, tp, nw, nb, W, B, Z, Zk, rs, J, r, e, n, rfl, hI⟩ := h
  exact both_s hI (CQ.s0 (CallR.up (x_joined (d := 0) hI.F hI.X rb rc) (by omega))) (fun sc' ar' hI' => CQ.t (CQ.s8 (CallR.up (m_joined (d := 0) hI'.F hI'.M rb rc) (by omega))))
theorem bo_window {K : PK} {i : Nat} {g : PG} (h : INV i g) {w j : Int} (rw : -2147483648 ≤ w ∧ w < 2147483648) (rj : -2147483648 ≤ j ∧ j < 2147483648) : Both K 110 186 [.int (iI w), .int (iI j)] i g := by
  obtain ⟨sc, ar, tx, oc, rl, ou, tl, q, tp, nw, nb, W, B, Z, Zk, rs, J, r, e, n, rfl, hI⟩ := h
  have hn := hI.F.1
  refine both_s hI (CQ.s0 (CallR.up (x_window (d := 0) rw rj (by have := hI.X.1; omega)) (by omega))) (fun sc' ar' hI' => CQ.t (CQ.s8 (x := 0) ?_))
  have e : sWindow (sc 303) (fun w j => ar (5 + w.toNat) j) w j = sWindow (sc' 8024) (fun w j => ar' 85 (4 * w + j)) w j := by
    unfold sWindow
    rw [show sc 303 = nw from hI.X.1, show sc' 8024 = nw from hI'.M.1]
    by_cases c : 0 ≤ w ∧ w < nw ∧ 0 ≤ j ∧ j ≤ 3
    · rw [if_pos c, if_pos c]
      refine (frx_w hI.X (by omega) (by omega) (by omega) (by omega) (by omega)).trans ?_
      obtain ⟨k0, k1, k2, k3⟩ := hI'.M.2.2.1 w (by omega) (by omega)
      rcases (show j = 0 ∨ j = 1 ∨ j = 2 ∨ j = 3 by omega) with rfl | rfl | rfl | rfl
      · show W w 0 = ar' 85 (4 * w + 0); rw [Int.add_zero, k0]
      · exact k1.symm
      · exact k2.symm
      · exact k3.symm
    · rw [if_neg c, if_neg c]
  rw [e]
  exact CallR.up (m_window (d := 0) rw rj (by have := hI'.M.1; omega)) (by omega)
theorem bo_law {K : PK} {i : Nat} {g : PG} (h : INV i g) {j : Int} (rj : -2147483648 ≤ j ∧ j < 2147483648) : Both K 111 187 [.int (iI j)] i g := by
  obtain ⟨sc, ar, tx, oc, rl, ou, tl, q, tp, nw, nb, W, B, Z, Zk, rs, J, r, e, n, rfl, hI⟩ := h
  have hn := hI.F.1
  refine both_s hI (CQ.s0 (CallR.up (x_law (d := 0) rj (by have := hI.X.2.1; omega)) (by omega))) (fun sc' ar' hI' => CQ.t (CQ.s8 (x := 0) ?_))
  have e : sLaw (sc 304) (ar 32) j = sLaw (sc' 8025) (ar' 87) j := by
    unfold sLaw
    rw [show sc 304 = nb from hI.X.2.1, show sc' 8025 = nb from hI'.M.2.1]
    by_cases c : 0 < nb ∧ 0 ≤ j ∧ j ≤ 3
    · rw [if_pos c, if_pos c, hI.lx j (by omega) (by omega), hI'.lm j (by omega) (by omega)]
    · rw [if_neg c, if_neg c]
  rw [e]
  exact CallR.up (m_law (d := 0) rj (by have := hI'.M.2.1; omega)) (by omega)
theorem bo_count {K : PK} {i : Nat} {g : PG} (h : INV i g) {j : Int} (rj : -2147483648 ≤ j ∧ j < 2147483648) : Both K 136 235 [.int (iI j)] i g := by
  obtain ⟨sc, ar, tx, oc, rl, ou, tl, q, tp, nw, nb, W, B, Z, Zk, rs, J, r, e, n, rfl, hI⟩ := h
  refine both_s hI (CQ.s0 (CallR.up (x_count (d := 0) rj) (by omega))) (fun sc' ar' hI' => CQ.t (CQ.s8 (x := 0) ?_))
  have e : sCount (sc 304) (sc 303) (sc 5) (sc 101) (sc 3106) (sc 3107) (ar 37 0 + ar 37 1 + ar 37 2) (sc 3105) j = sCount (sc' 8025) (sc' 8024) (sc' 8007) (sc' 8006) (sc' 8032) (sc' 8059) (ar' 92 0 + ar' 92 1 + ar' 92 2) (sc' 8056) j := by
    obtain ⟨-, -, q1, -, q2, q3, -, -, -, -, -, -, -, q4, -⟩ := id hI
    obtain ⟨-, -, -, p1, p2, -, p3, -, -, -, -, -, p4, -, -⟩ := id hI'
    rw [show sc 304 = nb from q2.1.2.1, show sc 303 = nw from q2.1.1, show sc 5 = (rs.length : Int) from q4.1, show sc 101 = (tp.length : Int) from q1.1, show sc 3106 = dN (zD Z) from q3.2.1, show sc 3107 = dU (zD Z) from q3.2.2.1, show sc 3105 = zN Z from q3.1.2.2.1, show sc' 8025 = nb from p2.2.1.2.1, show sc' 8024 = nw from p2.2.1.1, show sc' 8007 = (rs.length : Int) from p4.1.1, show sc' 8006 = (tp.length : Int) from p1.1, show sc' 8032 = dN (zD Z) from p3.2.1, show sc' 8059 = dU (zD Z) from p3.2.2.1, show sc' 8056 = zN Z from p3.1.2.2.1, (q3.2.2.2.1 0 (by omega) (by omega)).1, (q3.2.2.2.1 1 (by omega) (by omega)).1, (q3.2.2.2.1 2 (by omega) (by omega)).1, (p3.2.2.2.1 0 (by omega) (by omega)).1, (p3.2.2.2.1 1 (by omega) (by omega)).1, (p3.2.2.2.1 2 (by omega) (by omega)).1]
  rw [e]
  exact CallR.up (m_count (d := 0) rj) (by omega)
theorem bo_fault {K : PK} (hKK : KOK K) {i : Nat} {g : PG} (h : INV i g) {a : Int} (ra : -2147483648 ≤ a ∧ a < 2147483648) : Both K 107 182 [.int (iI a)] i g := by
  obtain ⟨sc, ar, tx, oc, rl, ou, tl, q, tp, nw, nb, W, B, Z, Zk, rs, J, r, e, n, rfl, hI⟩ := h
  by_cases c0 : a = 0
  · subst c0
    refine both_s hI (CQ.up (x_fault0 (d := 0) hI.1 hI.g1.1 hI.g1.2 hKK) (by omega)) (fun sc' ar' hI' => ?_)
    obtain ⟨r9, g9, k1, k2, sc9, ar9, k3, k4, k5, -⟩ := CQ.up (m_fault0 (K := K) (d := 0) (tx := tx) (oc := oc) (rl := rl) (ou := ou) (tl := tl) (q := q) hI'.1 hI'.g2.1 hI'.g2.2) (show 0 + 8 ≤ 60 by omega)
    exact ⟨r9, g9, k1, k2, sc9, ar9, 81, k3, k4, k5⟩
  by_cases c1 : a = 1
  · subst c1
    refine both_s hI (CQ.up (x_fault1 (d := 0) hI.1 hI.g1.1 hI.g1.2 hKK) (by omega)) (fun sc' ar' hI' => ?_)
    obtain ⟨r9, g9, k1, k2, sc9, k3, k4⟩ := CQ.up (m_fault1 (K := K) (d := 0) (tx := tx) (oc := oc) (rl := rl) (ou := ou) (tl := tl) (q := q) hI'.1 hI'.g2.1 hI'.g2.2 hI'.2.2.2.2.2.2.2.2.2.2.2.2.1.2) (show 0 + 51 ≤ 60 by omega)
    exact ⟨r9, g9, k1, k2, sc9, ar', 81, k3, Same.w rfl k4, Same.rf⟩
  exact both_s hI (CQ.s0 (CallR.up (x_faultN (d := 0) ra c0 c1) (by omega))) (fun sc' ar' hI' => CQ.t (CQ.s8 (CallR.up (m_faultN (d := 0) ra (by omega)) (by omega))))
