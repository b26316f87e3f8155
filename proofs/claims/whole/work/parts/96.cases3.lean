/-! calls of both sides: rows, texts, choice, by wip/tools -/
/-! calls of both sides: rows, texts, choice -/
theorem both_2 {K : PK} {kx km : Nat} {as : List Value} {v : Int} {i : Nat} {tp : List Int} {nw nb : Int} {W B : Int → Int → Int} {Z Zk : SS} {rs : List (List Int)} {J : Nat → Nat} {r e : Int → Int} {n : Nat} {sc : Nat → Int} {ar : Nat → Int → Int} {tx oc : Nat} {rl : Nat → Option Nat} {ou : Nat → Int64} {tl : List PO} {q : Nat × Nat} {g : PG} (c1 : CallR K 60 kx (.ref 0 :: as) g (some (.int (iI v))) (HW sc ar tx oc rl ou tl, q)) (h : INx i tp nw nb W B Z Zk rs J r e n sc ar oc rl tl q) (hm : CQ K 60 km (.ref 80 :: as) (HW sc ar tx oc rl ou tl, q) (QT9 v sc ar oc rl ou tl q)) : Both K kx km as i g := by
  obtain ⟨_, _, c2, rfl, sc2, ar2, tx2, rfl, hs2, ha2⟩ := hm
  exact ⟨v, _, _, c1, c2, ⟨_, rfl⟩, sc2, ar2, tx2, oc, rl, ou, tl, q, tp, nw, nb, W, B, Z, Zk, rs, J, r, e, n, rfl, (h.sm hs2 ha2).up⟩
theorem RuX.rw {rs : List (List Int)} {J : Nat → Nat} {a : Int} {rl : Nat → Option Nat} {oc : Nat} {tl : List PO} (h : RuX rs J a rl oc tl) {j n : Nat} {f : Int → Int} {tl' : List PO} (hT : TlX oc tl j tl') : RuX rs J a rl (j + 118) (otl tl' j n f) := by
  obtain ⟨h1, h2, h3⟩ := h
  obtain ⟨t1, t2, t3⟩ := hT
  refine ⟨h1, h2, fun k hk => ?_⟩
  obtain ⟨k1, k2, k3, k4, k5⟩ := h3 k hk
  have hl : J k + 2 < tl.length := by obtain ⟨_, _, _, z, _⟩ := k2; exact z
  have hc : ∀ c, c ≤ 2 → (otl tl' j n f)[J k + c]? = tl[J k + c]? := fun c hc => by
    rw [otl_ne (by omega)]
    exact t2 _ (by omega) (by omega)
  exact ⟨k1, k2.mv (by rw [otl_len]; exact t1) (hc 0 (by omega)) (hc 1 (by omega)) (hc 2 (by omega)), by omega, k4, k5⟩
theorem RwK.s {nw nb : Int} {W B : Int → Int → Int} {r e : Int → Int} {n j : Nat} {f : Int → Int} {sc : Nat → Int} {ar : Nat → Int → Int} {tl : List PO} (h : RwK nw nb W B r e n f sc ar) (hj : j < tl.length) : RwS nw nb W B r e n (j + 118) (otl tl j n f) sc ar := Or.inl ⟨h.1, j, f, rfl, by rw [otl_len]; exact hj, (otl_otl ..).symm, h⟩
section Kept
variable {nw nb : Int} {W B : Int → Int → Int} {Z : SS} {r r' e e' : Int → Int} {sc sc' : Nat → Int}
theorem GC.k5 (h : GC nw nb W B Z r e sc) (k : sc' 6306 = 1) (a : sc' 7205 = sc 7205) (hr : sc 6306 = 1 → r' = r) : (0 ≤ sc' 7205 ∧ sc' 7205 ≤ 1) ∧ (sc' 7205 = 1 → sc' 6306 = 1 ∧ ∀ i, 0 ≤ i → i < t3 (mny nw nb W B) → r' i = rsf nw nb W B (zL Z) i) := by
  obtain ⟨⟨b1, b2⟩, -⟩ := h
  rw [a]
  exact ⟨b1, fun z => ⟨k, fun i i0 i1 => by rw [hr (b2 z).1]; exact (b2 z).2 i i0 i1⟩⟩
theorem GC.k6 (h : GC nw nb W B Z r e sc) (k : sc' 6306 = 1) (a : sc' 7206 = sc 7206) (a9 : sc' 7209 = sc 7209) (a10 : sc' 7210 = sc 7210) : (0 ≤ sc' 7206 ∧ sc' 7206 ≤ 1) ∧ (sc' 7206 = 1 → sc' 6306 = 1 ∧ sc' 7209 = (lw3 (msv nw nb W B (zL Z))).1 ∧ sc' 7210 = (lw3 (msv nw nb W B (zL Z))).2) := by
  obtain ⟨-, ⟨b1, b2⟩, -⟩ := h
  rw [a, a9, a10]
  exact ⟨b1, fun z => ⟨k, (b2 z).2⟩⟩
theorem GC.k7 (h : GC nw nb W B Z r e sc) (k : sc' 6306 = 1) (a : sc' 7207 = sc 7207) (a8 : sc' 7208 = sc 7208) : (0 ≤ sc' 7207 ∧ sc' 7207 ≤ 1) ∧ (sc' 7207 = 1 → sc' 6306 = 1 ∧ sc' 7208 = bbn (rsv nw nb W B) (pyv nw nb W B (zL Z)) (rsv nw nb W B (amx (rsv nw nb W B) (t3 (mny nw nb W B)).toNat)) (t3 (mny nw nb W B)).toNat) := by
  obtain ⟨-, -, ⟨b1, b2⟩, -⟩ := h
  rw [a, a8]
  exact ⟨b1, fun z => ⟨k, (b2 z).2⟩⟩
theorem GC.ke (h : GC nw nb W B Z r e sc) (k : sc' 6306 = 1) (a : sc' 7703 = sc 7703) (a2 : sc' 7702 = sc 7702) (he : sc 6306 = 1 → e' = e) : (0 ≤ sc' 7703 ∧ sc' 7703 ≤ 1) ∧ (sc' 7703 = 1 → sc' 6306 = 1 ∧ sc' 7702 = knv nw nb W B Z ∧ ∀ i, 0 ≤ i → i < t3 (mny nw nb W B) → e' i = sof nw nb W B Z i) := by
  obtain ⟨-, -, -, b1, b2⟩ := h
  rw [a, a2]
  exact ⟨b1, fun z => ⟨k, (b2 z).2.1, fun i i0 i1 => by rw [he (b2 z).1]; exact (b2 z).2.2 i i0 i1⟩⟩
end Kept
theorem fl1 {x : Int} {p : Prop} (h : x = 1) (hp : p) : (0 ≤ x ∧ x ≤ 1) ∧ (x = 1 → p) := ⟨by omega, fun _ => hp⟩
theorem GZ.new {nw nb : Int} {rs : List (List Int)} {i : Nat} {law : Int → Int} (h : LwOK law) : GZ nw nb rs (40 * (i : Int)) (zB law) := ⟨⟨h, by show (0 : Int) ≤ 0 ∧ (0 : Int) ≤ 10; omega, by show (0 : Int) ≤ 0 ∧ (0 : Int) ≤ 40; omega, by show (0 : Int) ≤ 0; omega, by show (0 : Int) < 1000000; omega, fun _ _ _ => ⟨rfl, rfl⟩⟩, ⟨by show (0 : Int) ≤ 0 ∧ (0 : Int) ≤ 10; omega, fun k k0 k1 => absurd (show k < 0 from k1) (by omega)⟩, fun b _ _ => by show (-1 : Int) ≤ -1 ∧ (-1 : Int) < (rs.length : Int); omega, by show (0 : Int) ≤ 40 * (i : Int); omega⟩
theorem LAt.nl {g f : Int → Int} : LAt g f [] := fun k k0 k1 => absurd (show k < 0 from k1) (by omega)
theorem TpOK.nl : TpOK [] := ⟨Nat.zero_le _, fun k k0 k1 => absurd (show k < 0 from k1) (by omega)⟩
theorem gd_l {rs : List (List Int)} {tp : List Int} {k : Nat} (h : k < rs.length) : (rs ++ [tp]).getD k [] = rs.getD k [] := by
  rw [List.getD_eq_getElem?_getD, List.getD_eq_getElem?_getD, List.getElem?_append_left h]
theorem gd_e {rs : List (List Int)} {tp : List Int} : (rs ++ [tp]).getD rs.length [] = tp := by
  rw [List.getD_eq_getElem?_getD, List.getElem?_append_right (Nat.le_refl _), Nat.sub_self]
  rfl
theorem RuX.add {rs : List (List Int)} {J : Nat → Nat} {a : Int} {rl : Nat → Option Nat} {oc n : Nat} {tl : List PO} (h : RuX rs J a rl oc tl) (ho : OcS oc tl n) {tp : List Int} (hR : RdOK tp) (h4 : rs.length < 4) {f : Int → Int} (hf : LAt (fun v => v) f (rl9 tp).2.2) : RuX (rs ++ [tp]) (fun k => if k < rs.length then J k else tl.length) (a + 1) (va_up rl a.toNat (some (tl.length + 118))) oc (tl ++ [rcC tl.length ((rl9 tp).2.2.length : Int) 0, .inl (0, 64, .inl (zA fun _ => 0)), .inl (0, (rl9 tp).2.2.length, .inl (zA f))]) := by
  obtain ⟨h1, h2, h3⟩ := h
  have hoc : oc < tl.length + 118 := by
    rcases ho with ⟨z, -⟩ | ⟨j, f, z1, z2, -⟩ <;> omega
  refine ⟨by rw [List.length_append, List.length_singleton, h1]; omega, by rw [List.length_append, List.length_singleton]; omega, fun k hk => ?_⟩
  rw [List.length_append, List.length_singleton] at hk
  dsimp only
  by_cases e : k < rs.length
  · rw [if_pos e, gd_l e]
    obtain ⟨k1, k2, k3, k4, k5⟩ := h3 k e
    have hl : J k + 2 < tl.length := by obtain ⟨_, _, _, z, _⟩ := k2; exact z
    refine ⟨?_, k2.mv (by rw [List.length_append]; omega) (List.getElem?_append_left (by omega)) (List.getElem?_append_left (by omega)) (List.getElem?_append_left (by omega)), k3, fun k' hk' => by rw [if_pos (by omega)]; exact k4 k' hk', k5⟩
    show va_up rl a.toNat (some (tl.length + 118)) k = _
    unfold va_up
    rw [if_neg (by omega)]
    exact k1
  · obtain rfl : k = rs.length := by omega
    rw [if_neg e, gd_e]
    refine ⟨?_, ⟨fun _ => 0, 0, f, by rw [List.length_append]; show tl.length + 2 < tl.length + 3; omega, ?_, ?_, ?_, hf⟩, by omega, fun k' hk' => ?_, hR⟩
    · show va_up rl a.toNat (some (tl.length + 118)) rs.length = _
      unfold va_up
      rw [if_pos (by omega)]
    · rw [List.getElem?_append_right (Nat.le_refl _), Nat.sub_self]; rfl
    · rw [List.getElem?_append_right (by omega), show tl.length + 1 - tl.length = 1 by omega]; rfl
    · rw [List.getElem?_append_right (by omega), show tl.length + 2 - tl.length = 2 by omega]; rfl
    · rw [if_pos hk']
      obtain ⟨_, k2, _⟩ := h3 k' hk'
      have hl : J k' + 2 < tl.length := by obtain ⟨_, _, _, z, _⟩ := k2; exact z
      omega
theorem RuM.add {rs : List (List Int)} {a : Int} {f f' g g' : Int → Int} (h : RuM rs a f g) {tp : List Int} (hR : RdOK tp) (h4 : rs.length < 4) (e1 : ∀ k, 0 ≤ k → k < (tp.length : Int) → f' (160 * a + k) = sgb (lat tp k)) (e2 : ∀ k, (k < 160 * a ∨ 160 * a + 160 ≤ k) → f' k = f k) (e3 : g' a = (tp.length : Int)) (e4 : ∀ k, k ≠ a → g' k = g k) : RuM (rs ++ [tp]) (a + 1) f' g' := by
  obtain ⟨h1, h2, h3⟩ := h
  refine ⟨by rw [List.length_append, List.length_singleton, h1]; omega, by rw [List.length_append, List.length_singleton]; omega, fun k hk => ?_⟩
  rw [List.length_append, List.length_singleton] at hk
  by_cases e : k < rs.length
  · rw [gd_l e]
    obtain ⟨k1, k2, k3⟩ := h3 k e
    have ht := k3.1.1
    exact ⟨(e4 _ (by omega)).trans k1, fun i i0 i1 => (e2 _ (by omega)).trans (k2 i i0 i1), k3⟩
  · obtain rfl : k = rs.length := by omega
    rw [gd_e]
    rw [h1] at e1 e3
    exact ⟨e3, e1, hR⟩
theorem GZ.rs {nw nb : Int} {rs : List (List Int)} {N : Int} {Z : SS} {tp : List Int} (h : GZ nw nb rs N Z) : GZ nw nb (rs ++ [tp]) N Z := ⟨h.1, h.2.1, fun b b0 b1 => by have := h.2.2.1 b b0 b1; rw [List.length_append, List.length_singleton]; omega, h.2.2.2⟩
theorem QR.add {c0 s0 i n k : Nat} {q : Nat × Nat} {l : Nat} (h : QR c0 s0 i n k q) (hl : l ≤ 160) : QR c0 s0 i n (k + 1) (q.1 + 1 + 1 + 1, q.2 + 4 + 64 + l) := ⟨by have := h.1; show q.1 + 1 + 1 + 1 ≤ _; omega, by have := h.2; show q.2 + 4 + 64 + l ≤ _; omega⟩
theorem bo_rests {K : PK} {i : Nat} {g : PG} (h : INV i g) {a : Int} (ra : -2147483648 ≤ a ∧ a < 2147483648) : Both K 119 209 [.int (iI a)] i g := by
  obtain ⟨sc, ar, tx, oc, rl, ou, tl, q, tp, nw, nb, W, B, Z, Zk, rs, J, r, e, n, rfl, hI⟩ := h
  obtain ⟨h1, h2, h3, h4, h5, h6, h7, h8, h9, h10, h11, h12, h13, h14, h15⟩ := id hI
  have hn := h2.1
  by_cases c : 0 < nb
  · obtain ⟨_, _, c1, rfl, sc1, ar1, j, n1, f, tl1, q1, r1, e1, rfl, hj, hRK, hT, hQ, hs1, ha1, x1, x2, hE⟩ := CQ.up (x_rests (K := K) (d := 0) (sc := sc) (ar := ar) (tx := tx) (oc := oc) (rl := rl) (ou := ou) (tl := tl) (q := q) h2 h5.1 hI.lx hI.L c h12 h11.1.1 h11.1.2 ra) (show 0 + 7 ≤ 60 by omega)
    have hI1 : INx i tp nw nb W B Z Zk rs J r1 e1 n1 sc1 ar1 (j + 118) rl (otl tl1 j n1 f) q1 := ⟨h1, h2, h3.mv hs1 ha1 rfl rfl, h4.mv hs1 ha1 rfl rfl, h5.mv hs1 ha1 rfl rfl, h6.mv hs1 ha1 rfl rfl, h7.mv hs1 ha1 rfl rfl, h8, h9, h10.mv hs1 ha1 rfl rfl, ⟨fl1 x1 ⟨hRK.1, x2⟩, h11.k6 hRK.1 (hs1 7206 rfl) (hs1 7209 rfl) (hs1 7210 rfl), h11.k7 hRK.1 (hs1 7207 rfl) (hs1 7208 rfl), h11.ke hRK.1 (hs1 7703 rfl) (hs1 7702 rfl) (fun z => hE z)⟩, hRK.s hj, h13.mv hs1 ha1 rfl rfl, (h14.rw hT).mv (hs1 5 rfl), h15.rn (by omega) hQ⟩
    exact both_2 c1 hI1 (CQ.t (CQ.up (m_rests (d := 0) hI1.F hI1.M hI1.P hI1.lm hI1.L ra) (by omega)))
  · refine both_s hI (CQ.s0 (CallR.up (x_rests_f (d := 0) h2 h5.1 ra c) (by omega))) (fun sc' ar' hI' => CQ.t ?_)
    have hm := CQ.up (m_rests (K := K) (d := 0) (sc := sc') (ar := ar') (tx := tx) (oc := oc) (rl := rl) (ou := ou) (tl := tl) (q := q) hI'.F hI'.M hI'.P hI'.lm hI'.L ra) (show 0 + 6 ≤ 60 by omega)
    rw [show sRests nw nb W B (zL Z) a = (-1) from if_neg c] at hm
    exact hm
theorem bo_loss {K : PK} {i : Nat} {g : PG} (h : INV i g)  : Both K 121 213 [] i g := by
  obtain ⟨sc, ar, tx, oc, rl, ou, tl, q, tp, nw, nb, W, B, Z, Zk, rs, J, r, e, n, rfl, hI⟩ := h
  obtain ⟨h1, h2, h3, h4, h5, h6, h7, h8, h9, h10, h11, h12, h13, h14, h15⟩ := id hI
  have hn := h2.1
  by_cases c : 0 < nb
  · obtain ⟨_, _, c1, rfl, sc1, ar1, j, n1, f, tl1, q1, r1, e1, rfl, hj, hRK, hT, hQ, hs1, ha1, x1, x2, hE⟩ := CQ.up (x_loss (K := K) (d := 0) (sc := sc) (ar := ar) (tx := tx) (oc := oc) (rl := rl) (ou := ou) (tl := tl) (q := q) h2 h5.1 hI.lx hI.L c h12 h11.1.1 h11.1.2) (show 0 + 8 ≤ 60 by omega)
    have hI1 : INx i tp nw nb W B Z Zk rs J r1 e1 n1 sc1 ar1 (j + 118) rl (otl tl1 j n1 f) q1 := ⟨h1, h2, h3.mv hs1 ha1 rfl rfl, h4.mv hs1 ha1 rfl rfl, h5.mv hs1 ha1 rfl rfl, h6.mv hs1 ha1 rfl rfl, h7.mv hs1 ha1 rfl rfl, h8, h9, h10.mv hs1 ha1 rfl rfl, ⟨fl1 x1 ⟨hRK.1, x2⟩, h11.k6 hRK.1 (hs1 7206 rfl) (hs1 7209 rfl) (hs1 7210 rfl), h11.k7 hRK.1 (hs1 7207 rfl) (hs1 7208 rfl), h11.ke hRK.1 (hs1 7703 rfl) (hs1 7702 rfl) (fun z => hE z)⟩, hRK.s hj, h13.mv hs1 ha1 rfl rfl, (h14.rw hT).mv (hs1 5 rfl), h15.rn (by omega) hQ⟩
    exact both_2 c1 hI1 (CQ.t (CQ.up (m_loss (d := 0) hI1.F hI1.M hI1.P hI1.lm hI1.L ) (by omega)))
  · refine both_s hI (CQ.s0 (CallR.up (x_loss_f (d := 0) h2 h5.1 c) (by omega))) (fun sc' ar' hI' => CQ.t ?_)
    have hm := CQ.up (m_loss (K := K) (d := 0) (sc := sc') (ar := ar') (tx := tx) (oc := oc) (rl := rl) (ou := ou) (tl := tl) (q := q) hI'.F hI'.M hI'.P hI'.lm hI'.L ) (show 0 + 6 ≤ 60 by omega)
    rw [show sLoss nw nb W B (zL Z) = (-1000000) from if_neg c] at hm
    exact hm
theorem bo_most {K : PK} {i : Nat} {g : PG} (h : INV i g) {a : Int} (ra : -2147483648 ≤ a ∧ a < 2147483648) : Both K 120 211 [.int (iI a)] i g := by
  obtain ⟨sc, ar, tx, oc, rl, ou, tl, q, tp, nw, nb, W, B, Z, Zk, rs, J, r, e, n, rfl, hI⟩ := h
  obtain ⟨h1, h2, h3, h4, h5, h6, h7, h8, h9, h10, h11, h12, h13, h14, h15⟩ := id hI
  have hn := h2.1
  by_cases c : 0 < nb ∧ 0 ≤ a ∧ a ≤ 1
  · obtain ⟨_, _, c1, rfl, sc1, ar1, j, n1, f, tl1, q1, r1, e1, rfl, hj, hRK, hT, hQ, hs1, ha1, hE⟩ := CQ.up (x_most_t (K := K) (d := 0) (sc := sc) (ar := ar) (tx := tx) (oc := oc) (rl := rl) (ou := ou) (tl := tl) (q := q) h2 h5.1 c.1 h12 c.2) (show 0 + 5 ≤ 60 by omega)
    have hI1 : INx i tp nw nb W B Z Zk rs J r1 e1 n1 sc1 ar1 (j + 118) rl (otl tl1 j n1 f) q1 := ⟨h1, h2, h3.mv hs1 ha1 rfl rfl, h4.mv hs1 ha1 rfl rfl, h5.mv hs1 ha1 rfl rfl, h6.mv hs1 ha1 rfl rfl, h7.mv hs1 ha1 rfl rfl, h8, h9, h10.mv hs1 ha1 rfl rfl, ⟨h11.k5 hRK.1 (hs1 7205 rfl) (fun z => (hE z).1), h11.k6 hRK.1 (hs1 7206 rfl) (hs1 7209 rfl) (hs1 7210 rfl), h11.k7 hRK.1 (hs1 7207 rfl) (hs1 7208 rfl), h11.ke hRK.1 (hs1 7703 rfl) (hs1 7702 rfl) (fun z => (hE z).2)⟩, hRK.s hj, h13.mv hs1 ha1 rfl rfl, (h14.rw hT).mv (hs1 5 rfl), h15.rn (by omega) hQ⟩
    exact both_2 c1 hI1 (CQ.t (CQ.up (m_most (d := 0) hI1.F hI1.M hI1.P hI1.lm hI1.L ra) (by omega)))
  · refine both_s hI (CQ.s0 (CallR.up (x_most_f (d := 0) h2 h5.1 ra c) (by omega))) (fun sc' ar' hI' => CQ.t ?_)
    have hm := CQ.up (m_most (K := K) (d := 0) (sc := sc') (ar := ar') (tx := tx) (oc := oc) (rl := rl) (ou := ou) (tl := tl) (q := q) hI'.F hI'.M hI'.P hI'.lm hI'.L ra) (show 0 + 6 ≤ 60 by omega)
    rw [show sMost nw nb W B a = (-1) from if_neg c] at hm
    exact hm
theorem bo_laws {K : PK} {i : Nat} {g : PG} (h : INV i g) {a : Int} (ra : -2147483648 ≤ a ∧ a < 2147483648) : Both K 122 214 [.int (iI a)] i g := by
  obtain ⟨sc, ar, tx, oc, rl, ou, tl, q, tp, nw, nb, W, B, Z, Zk, rs, J, r, e, n, rfl, hI⟩ := h
  obtain ⟨h1, h2, h3, h4, h5, h6, h7, h8, h9, h10, h11, h12, h13, h14, h15⟩ := id hI
  have hn := h2.1
  by_cases c : 0 < nb ∧ 0 ≤ a ∧ a ≤ 1
  · obtain ⟨_, _, c1, rfl, sc1, ar1, j, n1, f, tl1, q1, r1, e1, rfl, hj, hRK, hT, hQ, hs1, ha1, x1, x2, x3, hE⟩ := CQ.up (x_laws_t (K := K) (d := 0) (sc := sc) (ar := ar) (tx := tx) (oc := oc) (rl := rl) (ou := ou) (tl := tl) (q := q) h2 h5.1 hI.lx hI.L c.1 h12 h11.2.1.1 h11.2.1.2 c.2) (show 0 + 8 ≤ 60 by omega)
    have hI1 : INx i tp nw nb W B Z Zk rs J r1 e1 n1 sc1 ar1 (j + 118) rl (otl tl1 j n1 f) q1 := ⟨h1, h2, h3.mv hs1 ha1 rfl rfl, h4.mv hs1 ha1 rfl rfl, h5.mv hs1 ha1 rfl rfl, h6.mv hs1 ha1 rfl rfl, h7.mv hs1 ha1 rfl rfl, h8, h9, h10.mv hs1 ha1 rfl rfl, ⟨h11.k5 hRK.1 (hs1 7205 rfl) (fun z => (hE z).1), fl1 x1 ⟨hRK.1, x2, x3⟩, h11.k7 hRK.1 (hs1 7207 rfl) (hs1 7208 rfl), h11.ke hRK.1 (hs1 7703 rfl) (hs1 7702 rfl) (fun z => (hE z).2)⟩, hRK.s hj, h13.mv hs1 ha1 rfl rfl, (h14.rw hT).mv (hs1 5 rfl), h15.rn (by omega) hQ⟩
    exact both_2 c1 hI1 (CQ.t (CQ.up (m_laws (d := 0) hI1.F hI1.M hI1.P hI1.lm hI1.L ra) (by omega)))
  · refine both_s hI (CQ.s0 (CallR.up (x_laws_f (d := 0) h2 h5.1 ra c) (by omega))) (fun sc' ar' hI' => CQ.t ?_)
    have hm := CQ.up (m_laws (K := K) (d := 0) (sc := sc') (ar := ar') (tx := tx) (oc := oc) (rl := rl) (ou := ou) (tl := tl) (q := q) hI'.F hI'.M hI'.P hI'.lm hI'.L ra) (show 0 + 6 ≤ 60 by omega)
    rw [show sLaws nw nb W B (zL Z) a = (-1) from if_neg c] at hm
    exact hm
theorem bo_bribe {K : PK} {i : Nat} {g : PG} (h : INV i g)  : Both K 123 216 [] i g := by
  obtain ⟨sc, ar, tx, oc, rl, ou, tl, q, tp, nw, nb, W, B, Z, Zk, rs, J, r, e, n, rfl, hI⟩ := h
  obtain ⟨h1, h2, h3, h4, h5, h6, h7, h8, h9, h10, h11, h12, h13, h14, h15⟩ := id hI
  have hn := h2.1
  by_cases c : 0 < nb
  · obtain ⟨_, _, c1, rfl, sc1, ar1, j, n1, f, tl1, q1, r1, e1, rfl, hj, hRK, hT, hQ, hs1, ha1, x1, x2, hE⟩ := CQ.up (x_bribe (K := K) (d := 0) (sc := sc) (ar := ar) (tx := tx) (oc := oc) (rl := rl) (ou := ou) (tl := tl) (q := q) h2 h5.1 hI.lx hI.L c h12 h11.2.2.1.1 h11.2.2.1.2) (show 0 + 7 ≤ 60 by omega)
    have hI1 : INx i tp nw nb W B Z Zk rs J r1 e1 n1 sc1 ar1 (j + 118) rl (otl tl1 j n1 f) q1 := ⟨h1, h2, h3.mv hs1 ha1 rfl rfl, h4.mv hs1 ha1 rfl rfl, h5.mv hs1 ha1 rfl rfl, h6.mv hs1 ha1 rfl rfl, h7.mv hs1 ha1 rfl rfl, h8, h9, h10.mv hs1 ha1 rfl rfl, ⟨h11.k5 hRK.1 (hs1 7205 rfl) (fun z => (hE z).1), h11.k6 hRK.1 (hs1 7206 rfl) (hs1 7209 rfl) (hs1 7210 rfl), fl1 x1 ⟨hRK.1, x2⟩, h11.ke hRK.1 (hs1 7703 rfl) (hs1 7702 rfl) (fun z => (hE z).2)⟩, hRK.s hj, h13.mv hs1 ha1 rfl rfl, (h14.rw hT).mv (hs1 5 rfl), h15.rn (by omega) hQ⟩
    exact both_2 c1 hI1 (CQ.t (CQ.up (m_bribe (d := 0) hI1.F hI1.M hI1.P hI1.lm hI1.L ) (by omega)))
  · refine both_s hI (CQ.s0 (CallR.up (x_bribe_f (d := 0) h2 h5.1 c) (by omega))) (fun sc' ar' hI' => CQ.t ?_)
    have hm := CQ.up (m_bribe (K := K) (d := 0) (sc := sc') (ar := ar') (tx := tx) (oc := oc) (rl := rl) (ou := ou) (tl := tl) (q := q) hI'.F hI'.M hI'.P hI'.lm hI'.L ) (show 0 + 6 ≤ 60 by omega)
    rw [show sBribe nw nb W B (zL Z) = (-1) from if_neg c] at hm
    exact hm
theorem bo_explain {K : PK} {i : Nat} {g : PG} (h : INV i g) {a : Int} (ra : -2147483648 ≤ a ∧ a < 2147483648) : Both K 126 221 [.int (iI a)] i g := by
  obtain ⟨sc, ar, tx, oc, rl, ou, tl, q, tp, nw, nb, W, B, Z, Zk, rs, J, r, e, n, rfl, hI⟩ := h
  obtain ⟨h1, h2, h3, h4, h5, h6, h7, h8, h9, h10, h11, h12, h13, h14, h15⟩ := id hI
  have hn := h2.1
  by_cases c : 0 < nb
  · obtain ⟨_, _, c1, rfl, sc1, ar1, j, n1, f, tl1, q1, r1, e1, rfl, hj, hRK, hT, hQ, hs1, ha1, x1, x2, x3, hE⟩ := CQ.up (x_explain (K := K) (d := 0) (sc := sc) (ar := ar) (tx := tx) (oc := oc) (rl := rl) (ou := ou) (tl := tl) (q := q) h2 h5.1 c h12 h6.1 h8.2.1 h11.2.2.2.1 h11.2.2.2.2 ra) (show 0 + 6 ≤ 60 by omega)
    have hI1 : INx i tp nw nb W B Z Zk rs J r1 e1 n1 sc1 ar1 (j + 118) rl (otl tl1 j n1 f) q1 := ⟨h1, h2, h3.mv hs1 ha1 rfl rfl, h4.mv hs1 ha1 rfl rfl, h5.mv hs1 ha1 rfl rfl, h6.mv hs1 ha1 rfl rfl, h7.mv hs1 ha1 rfl rfl, h8, h9, h10.mv hs1 ha1 rfl rfl, ⟨h11.k5 hRK.1 (hs1 7205 rfl) (fun z => hE z), h11.k6 hRK.1 (hs1 7206 rfl) (hs1 7209 rfl) (hs1 7210 rfl), h11.k7 hRK.1 (hs1 7207 rfl) (hs1 7208 rfl), fl1 x1 ⟨hRK.1, x2, x3⟩⟩, hRK.s hj, h13.mv hs1 ha1 rfl rfl, (h14.rw hT).mv (hs1 5 rfl), h15.rn (by omega) hQ⟩
    exact both_2 c1 hI1 (CQ.t (CQ.up (m_explain (d := 0) hI1.F hI1.M hI1.P hI1.lm hI1.L h8.2.1 hI1.2.2.2.2.2.2.1.1 ra) (by omega)))
  · refine both_s hI (CQ.s0 (CallR.up (x_explain_f (d := 0) h2 h5.1 ra c) (by omega))) (fun sc' ar' hI' => CQ.t ?_)
    have hm := CQ.up (m_explain (K := K) (d := 0) (sc := sc') (ar := ar') (tx := tx) (oc := oc) (rl := rl) (ou := ou) (tl := tl) (q := q) hI'.F hI'.M hI'.P hI'.lm hI'.L h8.2.1 hI'.2.2.2.2.2.2.1.1 ra) (show 0 + 6 ≤ 60 by omega)
    rw [show sExplain nw nb W B Z a = (-1) from if_neg c] at hm
    exact hm
theorem bo_knocked {K : PK} {i : Nat} {g : PG} (h : INV i g)  : Both K 127 222 [] i g := by
  obtain ⟨sc, ar, tx, oc, rl, ou, tl, q, tp, nw, nb, W, B, Z, Zk, rs, J, r, e, n, rfl, hI⟩ := h
  obtain ⟨h1, h2, h3, h4, h5, h6, h7, h8, h9, h10, h11, h12, h13, h14, h15⟩ := id hI
  have hn := h2.1
  by_cases c : 0 < nb
  · obtain ⟨_, _, c1, rfl, sc1, ar1, j, n1, f, tl1, q1, r1, e1, rfl, hj, hRK, hT, hQ, hs1, ha1, x1, x2, x3, hE⟩ := CQ.up (x_knocked (K := K) (d := 0) (sc := sc) (ar := ar) (tx := tx) (oc := oc) (rl := rl) (ou := ou) (tl := tl) (q := q) h2 h5.1 c h12 h6.1 h8.2.1 h11.2.2.2.1 h11.2.2.2.2) (show 0 + 6 ≤ 60 by omega)
    have hI1 : INx i tp nw nb W B Z Zk rs J r1 e1 n1 sc1 ar1 (j + 118) rl (otl tl1 j n1 f) q1 := ⟨h1, h2, h3.mv hs1 ha1 rfl rfl, h4.mv hs1 ha1 rfl rfl, h5.mv hs1 ha1 rfl rfl, h6.mv hs1 ha1 rfl rfl, h7.mv hs1 ha1 rfl rfl, h8, h9, h10.mv hs1 ha1 rfl rfl, ⟨h11.k5 hRK.1 (hs1 7205 rfl) (fun z => hE z), h11.k6 hRK.1 (hs1 7206 rfl) (hs1 7209 rfl) (hs1 7210 rfl), h11.k7 hRK.1 (hs1 7207 rfl) (hs1 7208 rfl), fl1 x1 ⟨hRK.1, x2, x3⟩⟩, hRK.s hj, h13.mv hs1 ha1 rfl rfl, (h14.rw hT).mv (hs1 5 rfl), h15.rn (by omega) hQ⟩
    exact both_2 c1 hI1 (CQ.t (CQ.up (m_knocked (d := 0) hI1.F hI1.M hI1.P hI1.lm hI1.L h8.2.1 hI1.2.2.2.2.2.2.1.1 ) (by omega)))
  · refine both_s hI (CQ.s0 (CallR.up (x_knocked_f (d := 0) h2 h5.1 c) (by omega))) (fun sc' ar' hI' => CQ.t ?_)
    have hm := CQ.up (m_knocked (K := K) (d := 0) (sc := sc') (ar := ar') (tx := tx) (oc := oc) (rl := rl) (ou := ou) (tl := tl) (q := q) hI'.F hI'.M hI'.P hI'.lm hI'.L h8.2.1 hI'.2.2.2.2.2.2.1.1 ) (show 0 + 6 ≤ 60 by omega)
    rw [show sKnocked nw nb W B Z = (-1) from if_neg c] at hm
    exact hm
theorem bo_text0 {K : PK} (hKK : KOK K) {i : Nat} {g : PG} (h : INV i g) : Both K 108 183 [.int (iI 0)] i g := by
  obtain ⟨sc, ar, tx, oc, rl, ou, tl, q, tp, nw, nb, W, B, Z, Zk, rs, J, r, e, n, rfl, hI⟩ := h
  obtain ⟨h1, h2, h3, h4, h5, h6, h7, h8, h9, h10, h11, h12, h13, h14, h15⟩ := id hI
  obtain ⟨_, _, c1, rfl, sc1, ar1, rfl, hs1, ha1, xg, xb⟩ := CQ.up (x_text0 (K := K) (d := 0) (sc := sc) (ar := ar) (tx := tx) (oc := oc) (rl := rl) (ou := ou) (tl := tl) (q := q) h1 h3.1 h3.2 hKK) (show 0 + 8 ≤ 60 by omega)
  have g4 := h4.mv hs1 ha1 rfl rfl
  obtain ⟨_, _, c2, rfl, sc2, ar2, rfl, hs2, ha2, mg, mb⟩ := CQ.up (m_text0 (K := K) (d := 0) (sc := sc1) (ar := ar1) (tx := tx) (oc := oc) (rl := rl) (ou := ou) (tl := tl) (q := q) h1 g4.1 g4.2) (show 0 + 9 ≤ 60 by omega)
  by_cases c : frF tp = -1
  · obtain ⟨x1, x2, x3, x4, x5, x6, x7, x8, x9, x10, x11⟩ := xg c
    obtain ⟨y1, y2, y3, y4, y5⟩ := mg c
    have hs : Same (tkF ++ tmF) sc sc2 := Same.tr (Same.w rfl hs1) (Same.w rfl hs2)
    have ha : Same (tkA ++ tmA) ar ar2 := Same.tr (Same.w rfl ha1) (Same.w rfl ha2)
    have k6 : GX (zB (gL (fr9 tp))) sc1 ar1 := x4
    have e8 : sc2 8 = 0 := (hs2 8 rfl).trans x6
    have kF : FrX (sc2 303) (sc2 304) (ar2 5) (ar2 6) (ar2 7) (ar2 8) (ar2 10) (ar2 11) (ar2 12) (fW (fr9 tp)) (fB (fr9 tp)) (gW (fr9 tp)) (gB (fr9 tp)) := by
      rw [hs2 303 rfl, hs2 304 rfl, ha2 5 rfl, ha2 6 rfl, ha2 7 rfl, ha2 8 rfl, ha2 10 rfl, ha2 11 rfl, ha2 12 rfl]
      exact x2
    exact ⟨_, _, _, c1, c2, ⟨_, rfl⟩, sc2, ar2, 81, oc, rl, ou, tl, q, [], fW (fr9 tp), fB (fr9 tp), gW (fr9 tp), gB (fr9 tp), zB (gL (fr9 tp)), zB (gL (fr9 tp)), rs, J, r, e, n, rfl, TpOK.nl, fr9_FrOK x1, ⟨(hs2 101 rfl).trans x5, LAt.nl⟩, ⟨y4, LAt.nl⟩, ⟨kF, y1, y2⟩, k6.mv hs2 ha2 rfl rfl, y3, GZ.new (fr9_LwOK tp), GZ.new (fr9_LwOK tp), ⟨Or.inl e8, y5.trans e8.symm, fun z => absurd z (by omega)⟩, ⟨fl0 ((hs2 7205 rfl).trans x8), fl0 ((hs2 7206 rfl).trans x9), fl0 ((hs2 7207 rfl).trans x10), fl0 ((hs2 7703 rfl).trans x11)⟩, Or.inr ⟨(hs2 6306 rfl).trans x7, h12.oc⟩, h13.mv hs ha rfl rfl, h14.mv (hs 5 rfl), h15.up⟩
  · obtain ⟨x1, x2⟩ := xb c
    obtain ⟨y1, y2⟩ := mb c
    exact ⟨_, _, _, c1, c2, ⟨_, rfl⟩, sc2, ar2, 81, oc, rl, ou, tl, q, tp, nw, nb, W, B, Z, Zk, rs, J, r, e, n, rfl, ((hI.sm x1 x2).sm y1 y2).up⟩
theorem bo_text1 {K : PK} (hKK : KOK K) {i : Nat} {g : PG} (h : INV i g) : Both K 108 183 [.int (iI 1)] i g := by
  obtain ⟨sc, ar, tx, oc, rl, ou, tl, q, tp, nw, nb, W, B, Z, Zk, rs, J, r, e, n, rfl, hI⟩ := h
  obtain ⟨h1, h2, h3, h4, h5, h6, h7, h8, h9, h10, h11, h12, h13, h14, h15⟩ := id hI
  have e5 := h14.1
  have e6 := h14.2.1
  have e7 := h13.1.1
  obtain ⟨_, _, c1, rfl, sc1, ar1, hs1, ha1, hd⟩ := CQ.up (x_text1 (K := K) (d := 0) (sc := sc) (ar := ar) (tx := tx) (oc := oc) (rl := rl) (ou := ou) (tl := tl) (q := q) h1 h3.1 h3.2 hKK (by omega)) (show 0 + 50 ≤ 60 by omega)
  have g4 := h4.mv hs1 ha1 rfl rfl
  have g13 := h13.mv hs1 ha1 rfl rfl
  have e8 : sc1 8007 = sc 8007 := hs1 8007 rfl
  rcases hd with ⟨d1, d2, d3, d4, d5, f, d6, rfl⟩ | ⟨d1, d2, d3, rfl⟩
  · obtain ⟨_, _, c2, rfl, sc2, ar2, tx2, rfl, hs2, ha2, mg, mb⟩ := CQ.up (m_text1 (K := K) (d := 0) (sc := sc1) (ar := ar1) (tx := tx) (oc := oc) (rl := (va_up rl (sc 5).toNat (some (tl.length + 118)))) (ou := ou) (tl := (tl ++ [rcC tl.length ((rl9 tp).2.2.length : Int) 0, .inl (0, 64, .inl (zA fun _ => 0)), .inl (0, (rl9 tp).2.2.length, .inl (zA f))])) (q := (q.1 + 1 + 1 + 1, q.2 + 4 + 64 + (rl9 tp).2.2.length)) h1 g4.1 g4.2 g13.2 (by omega)) (show 0 + 52 ≤ 60 by omega)
    rw [show sText1 (sc1 8007) tp = sText1 (sc 5) tp by rw [e8, e7, e5]] at c2
    obtain ⟨y1, y2, y3, y4, y5, y6⟩ := mg ⟨by omega, d2⟩
    have hs : Same (5 :: 101 :: 8000 :: 8006 :: 8007 :: (ruF ++ gtF)) sc sc2 := Same.tr (Same.w rfl hs1) (Same.w rfl hs2)
    have ha : Same (82 :: 83 :: ruA) ar ar2 := Same.tr (Same.w rfl ha1) (Same.w rfl ha2)
    have hR : RdOK tp := ⟨h1, d2⟩
    have k14 := RuX.add h14 h12.oc.2 hR (by omega) d6
    have k13 : RuM (rs ++ [tp]) (sc2 8007) (ar2 82) (ar2 83) := by
      rw [y1]
      exact RuM.add g13.1 hR (by omega) y3 y4 y5 y6
    have kL : LtOK ar2 := by
      unfold LtOK
      rw [ha2 84 rfl]
      exact g13.2
    exact ⟨_, _, _, c1, c2, ⟨_, rfl⟩, sc2, ar2, tx2, oc, _, ou, _, _, [], nw, nb, W, B, Z, Zk, rs ++ [tp], _, r, e, n, rfl, TpOK.nl, h2, ⟨(hs2 101 rfl).trans d4, LAt.nl⟩, ⟨y2, LAt.nl⟩, h5.mv hs ha rfl rfl, h6.mv hs ha rfl rfl, h7.mv hs ha rfl rfl, h8.rs.up, h9.rs.up, h10.mv hs ha rfl rfl, h11.mv hs rfl, (h12.mv (hs.in rfl) (ha.in rfl)).tl (by rw [List.length_append]; omega) (fun k k1 _ => List.getElem?_append_left k1), ⟨k13, kL⟩, k14.mv ((hs2 5 rfl).trans d3), (by rw [List.length_append, List.length_singleton]; exact (h15.add d5).up)⟩
  · obtain ⟨_, _, c2, rfl, sc2, ar2, tx2, rfl, hs2, ha2, mg, mb⟩ := CQ.up (m_text1 (K := K) (d := 0) (sc := sc1) (ar := ar1) (tx := tx) (oc := oc) (rl := rl) (ou := ou) (tl := tl) (q := q) h1 g4.1 g4.2 g13.2 (by omega)) (show 0 + 52 ≤ 60 by omega)
    rw [show sText1 (sc1 8007) tp = sText1 (sc 5) tp by rw [e8, e7, e5]] at c2
    obtain ⟨y1, y2, y3, y4⟩ := mb (by rw [e8, e7, ← e5]; exact d1)
    have hs : Same (5 :: 101 :: 8000 :: 8006 :: 8007 :: (ruF ++ gtF)) sc sc2 := Same.tr (Same.w rfl hs1) (Same.w rfl hs2)
    have ha : Same (82 :: 83 :: ruA) ar ar2 := Same.tr (Same.w rfl ha1) (Same.w rfl ha2)
    have k13 : RuM rs (sc2 8007) (ar2 82) (ar2 83) := by
      rw [y1, y3, y4]
      exact g13.1
    have kL : LtOK ar2 := by
      unfold LtOK
      rw [ha2 84 rfl]
      exact g13.2
    have k3 : G1 tp sc2 ar2 := ⟨((hs2 101 rfl).trans d3).trans h3.1, by rw [ha2 2 rfl, ha1 2 rfl]; exact h3.2⟩
    have k4 : G2 tp sc2 ar2 := ⟨y2.trans g4.1, by rw [ha2 81 rfl]; exact g4.2⟩
    exact ⟨_, _, _, c1, c2, ⟨_, rfl⟩, sc2, ar2, tx2, oc, rl, ou, tl, q, tp, nw, nb, W, B, Z, Zk, rs, J, r, e, n, rfl, h1, h2, k3, k4, h5.mv hs ha rfl rfl, h6.mv hs ha rfl rfl, h7.mv hs ha rfl rfl, h8.up, h9.up, h10.mv hs ha rfl rfl, h11.mv hs rfl, h12.mv (hs.in rfl) (ha.in rfl), ⟨k13, kL⟩, h14.mv ((hs2 5 rfl).trans d2), h15.up⟩
theorem bo_text {K : PK} (hKK : KOK K) {i : Nat} {g : PG} (h : INV i g) {a : Int} (ra : -2147483648 ≤ a ∧ a < 2147483648) : Both K 108 183 [.int (iI a)] i g := by
  by_cases c0 : a = 0
  · subst c0; exact bo_text0 hKK h
  by_cases c1 : a = 1
  · subst c1; exact bo_text1 hKK h
  obtain ⟨sc, ar, tx, oc, rl, ou, tl, q, tp, nw, nb, W, B, Z, Zk, rs, J, r, e, n, rfl, hI⟩ := h
  exact both_s hI (CQ.s0 (CallR.up (x_textN (d := 0) ra c0 c1) (by omega))) (fun sc' ar' hI' => CQ.t (CQ.s8 (CallR.up (m_textN (d := 0) ra (by omega)) (by omega))))
theorem bo_choice {K : PK} {i : Nat} {g : PG} (h : INV i g)  : Both K 124 218 [] i g := by
  obtain ⟨sc, ar, tx, oc, rl, ou, tl, q, tp, nw, nb, W, B, Z, Zk, rs, J, r, e, n, rfl, hI⟩ := h
  obtain ⟨h1, h2, h3, h4, h5, h6, h7, h8, h9, h10, h11, h12, h13, h14, h15⟩ := id hI
  have hn := h2.1
  have e6 := h14.2.1
  obtain ⟨_, _, c1, rfl, ar1, tl1, rfl, ha1, k14, kT⟩ := CQ.up (x_choice (K := K) (d := 0) (sc := sc) (ar := ar) (tx := tx) (oc := oc) (rl := rl) (ou := ou) (tl := tl) (q := q) h2 h5.1 (ru := zR Z) (fun b b0 b1 => ⟨h6.1.2.1 b b0 (by omega), (h8.2.2.1 b b0 b1).1, by have := (h8.2.2.1 b b0 b1).2; omega⟩) h14) (show 0 + 7 ≤ 60 by omega)
  have hs1 : Same [8000] sc sc := Same.rf
  have g5 := h5.mv hs1 ha1 rfl rfl
  have g7 := h7.mv hs1 ha1 rfl rfl
  have g13 := h13.mv hs1 ha1 rfl rfl
  obtain ⟨_, _, c2, rfl, sc2, ar2, tx2, rfl, hs2, ha2, kL⟩ := CQ.up (m_choice (K := K) (d := 0) (sc := sc) (ar := ar1) (tx := tx) (oc := oc) (rl := rl) (ou := ou) (tl := tl1) (q := q) h2 g5.2.1 g5.2.2 (ru := zR Z) (fun b b0 b1 => ⟨g7.1.2.1 b b0 (by omega), h8.2.2.1 b b0 b1⟩) g13.1 g13.2) (show 0 + 52 ≤ 60 by omega)
  have hs : Same (8000 :: gtF) sc sc2 := hs2
  have ha : Same [78, 79, 84, 96] ar ar2 := Same.tr (Same.w rfl ha1) (Same.w rfl ha2)
  have k13 : RuM rs (sc2 8007) (ar2 82) (ar2 83) := by
    rw [hs2 8007 rfl, ha2 82 rfl, ha2 83 rfl]
    exact g13.1
  have k12 := (h12.mv (hs.in rfl) (ha.in rfl)).tl (tl' := tl1) (by rw [kT.1]; omega) (fun k k1 k2 => kT.2 k (fun z hz => by
    obtain ⟨-, -, z3, -⟩ := h14.2.2 z hz
    omega))
  exact ⟨_, _, _, c1, c2, ⟨_, rfl⟩, sc2, ar2, tx2, oc, rl, ou, tl1, q, tp, nw, nb, W, B, Z, Zk, rs, J, r, e, n, rfl, h1, h2, h3.mv hs ha rfl rfl, h4.mv hs ha rfl rfl, h5.mv hs ha rfl rfl, h6.mv hs ha rfl rfl, h7.mv hs ha rfl rfl, h8.up, h9.up, h10.mv hs ha rfl rfl, h11.mv hs rfl, k12, ⟨k13, kL⟩, k14.mv (hs 5 rfl), h15.up⟩
