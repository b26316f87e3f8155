/-! calls of both sides that change what is kept, by wip/tools -/
/-! calls of both sides that change what is kept -/
theorem LAt.tk {g f : Int → Int} {l : List Int} {a : Nat} (h : LAt g f l) : LAt g f (l.take a) := fun k k0 k1 => by
  rw [List.length_take] at k1
  rw [h k k0 (by omega), lat_q, lat_q, List.getElem?_take_of_lt (by omega)]
theorem TpOK.tk {l : List Int} {a : Nat} (h : TpOK l) : TpOK (l.take a) := ⟨by rw [List.length_take]; have := h.1; omega, fun k k0 k1 => by
  rw [List.length_take] at k1
  rw [lat_q, List.getElem?_take_of_lt (by omega), ← lat_q]
  exact h.2 k k0 (by omega)⟩
theorem son_c {nw nb : Int} {W B : Int → Int → Int} {Z Z' : SS} (e2 : zs Z' = zs Z) (e3 : zw Z' = zw Z) (e4 : zv Z' = zv Z) (i : Int) : ∀ k, son nw nb W B Z' i k = son nw nb W B Z i k
  | 0 => rfl
  | k + 1 => by
    show (son nw nb W B Z' i k && decide (asv nw nb W B Z' i k = zv Z' k)) = (son nw nb W B Z i k && decide (asv nw nb W B Z i k = zv Z k))
    rw [son_c e2 e3 e4 i k, e4, show asv nw nb W B Z' i k = asv nw nb W B Z i k by unfold asv; rw [e2, e3]]
theorem sof_c {nw nb : Int} {W B : Int → Int → Int} {Z Z' : SS} (e1 : zN Z' = zN Z) (e2 : zs Z' = zs Z) (e3 : zw Z' = zw Z) (e4 : zv Z' = zv Z) (i : Int) : sof nw nb W B Z' i = sof nw nb W B Z i := by
  unfold sof
  rw [e1, son_c e2 e3 e4]
theorem kbn_c {nw nb : Int} {W B : Int → Int → Int} {Z Z' : SS} (e1 : zN Z' = zN Z) (e2 : zs Z' = zs Z) (e3 : zw Z' = zw Z) (e4 : zv Z' = zv Z) : ∀ k, kbn nw nb W B Z' k = kbn nw nb W B Z k
  | 0 => rfl
  | k + 1 => by
    show (if sof nw nb W B Z' k = 1 then (andz (kbn nw nb W B Z' k).1 (xcn nw nb W B k nb.toNat), 1) else kbn nw nb W B Z' k) = (if sof nw nb W B Z k = 1 then (andz (kbn nw nb W B Z k).1 (xcn nw nb W B k nb.toNat), 1) else kbn nw nb W B Z k)
    rw [kbn_c e1 e2 e3 e4 k, sof_c e1 e2 e3 e4]
theorem knv_c {nw nb : Int} {W B : Int → Int → Int} {Z Z' : SS} (e1 : zN Z' = zN Z) (e2 : zs Z' = zs Z) (e3 : zw Z' = zw Z) (e4 : zv Z' = zv Z) : knv nw nb W B Z' = knv nw nb W B Z := by
  unfold knv
  rw [kbn_c e1 e2 e3 e4]
/-- the caches of another season of the same law and ashes -/
theorem GC.cz {nw nb : Int} {W B : Int → Int → Int} {Z Z' : SS} {r e : Int → Int} {sc : Nat → Int} (h : GC nw nb W B Z r e sc) (e0 : zL Z' = zL Z) (e1 : zN Z' = zN Z) (e2 : zs Z' = zs Z) (e3 : zw Z' = zw Z) (e4 : zv Z' = zv Z) : GC nw nb W B Z' r e sc := by
  unfold GC at h ⊢
  rw [e0, knv_c e1 e2 e3 e4]
  obtain ⟨a, b, c, d1, d2⟩ := h
  exact ⟨a, b, c, d1, fun z => ⟨(d2 z).1, (d2 z).2.1, fun i i0 i1 => ((d2 z).2.2 i i0 i1).trans (sof_c e1 e2 e3 e4 i).symm⟩⟩
theorem GC.ash {nw nb : Int} {W B : Int → Int → Int} {Z Z' : SS} {r e : Int → Int} {sc sc' : Nat → Int} (h : GC nw nb W B Z r e sc) (e0 : sc' 6306 = sc 6306) (e5 : sc' 7703 = sc 7703) (e6 : sc' 7702 = sc 7702) (e1 : zN Z' = zN Z) (e2 : zs Z' = zs Z) (e3 : zw Z' = zw Z) (e4 : zv Z' = zv Z) : (0 ≤ sc' 7703 ∧ sc' 7703 ≤ 1) ∧ (sc' 7703 = 1 → sc' 6306 = 1 ∧ sc' 7702 = knv nw nb W B Z' ∧ ∀ i, 0 ≤ i → i < t3 (mny nw nb W B) → e i = sof nw nb W B Z' i) := by
  rw [e0, e5, e6, knv_c e1 e2 e3 e4]
  obtain ⟨-, -, -, d1, d2⟩ := h
  exact ⟨d1, fun z => ⟨(d2 z).1, (d2 z).2.1, fun i i0 i1 => ((d2 z).2.2 i i0 i1).trans (sof_c e1 e2 e3 e4 i).symm⟩⟩
/-- only the flags count, where they are nothing -/
theorem fl0 {x : Int} {p : Prop} (h : x = 0) : (0 ≤ x ∧ x ≤ 1) ∧ (x = 1 → p) := ⟨by omega, fun z => absurd z (by omega)⟩
theorem LwOK.us {law : Int → Int} {j v : Int} (h : LwOK law) (hj : 0 ≤ j ∧ j ≤ 3) (hv : 0 ≤ v ∧ v ≤ lmo j) : LwOK (usz law j v) := by
  unfold LwOK lmo at *
  rcases (show j = 0 ∨ j = 1 ∨ j = 2 ∨ j = 3 by omega) with rfl | rfl | rfl | rfl <;> (repeat (first | rw [usz_s] | rw [usz_n (by omega)])) <;> (first | rw [if_pos (by omega)] at hv | rw [if_neg (by omega)] at hv) <;> omega
theorem us_c {f g : Int → Int} {b v : Int} {N : Int} (h : ∀ j, 0 ≤ j → j < N → f j = g j) : ∀ j, 0 ≤ j → j < N → usz f b v j = usz g b v j := fun j j0 j1 => by
  by_cases e : j = b
  · rw [e, usz_s, usz_s]
  · rw [usz_n e, usz_n e]; exact h j j0 j1
theorem dnt_n {nw nb : Int} {W B : Int → Int → Int} {law : Int → Int} : ∀ (m : Nat) (x : Int64) (D : SD), NtOK nb D → dN D + m < 999999 → NtOK nb (dnt nw nb W B law m x D) ∧ dN (dnt nw nb W B law m x D) ≤ dN D + m
  | 0, x, D, h, _ => ⟨h, by show dN D ≤ dN D + ((0 : Nat) : Int); omega⟩
  | m + 1, x, D, h, hn => by
    have h1 := h.dn (m := m) hn (sS (svn nb W B (dps nw W B x))) (gnr nw nb W B law (dps nw W B x))
    have h2 := dnt_n (nw := nw) (W := W) (B := B) (law := law) m (nxi nb.toNat x) _ h1.1 h1.2
    refine ⟨h2.1, ?_⟩
    have h3 : dN (nst nb (sS (svn nb W B (dps nw W B x))) (gnr nw nb W B law (dps nw W B x)) D) = dN D + 1 := rfl
    have h4 := h2.2
    show dN (dnt nw nb W B law m (nxi nb.toNat x) (nst nb (sS (svn nb W B (dps nw W B x))) (gnr nw nb W B law (dps nw W B x)) D)) ≤ _
    omega
theorem GZ.dn {nw nb : Int} {rs : List (List Int)} {N N' : Int} {Z : SS} {D : SD} (h : GZ nw nb rs N Z) (h1 : NtOK nb D) (h2 : dN D ≤ N') : GZ nw nb rs N' (zL Z, zR Z, zN Z, zs Z, zw Z, zv Z, D) := ⟨⟨h.1.1, h.1.2.1, h1⟩, h.2.1, h.2.2.1, h2⟩
theorem GX.dn {Z : SS} {D : SD} {sc sc' : Nat → Int} {ar ar' : Nat → Int → Int} (h : GX Z sc ar) (e1 : sc' 3105 = sc 3105) (e2 : ∀ k ∈ [32, 33, 34, 35, 36], ar' k = ar k) (hD : NtX D sc' ar') : GX (zL Z, zR Z, zN Z, zs Z, zw Z, zv Z, D) sc' ar' := by
  refine ⟨?_, hD⟩
  have h0 := h.1
  rw [e1, e2 32 (by decide), e2 33 (by decide), e2 34 (by decide), e2 35 (by decide), e2 36 (by decide)]
  exact h0
theorem GM.dn {nb : Int} {Z : SS} {D : SD} {sc sc' : Nat → Int} {ar ar' : Nat → Int → Int} (h : GM nb Z sc ar) (e1 : sc' 8056 = sc 8056) (e2 : ∀ k ∈ [87, 91, 111, 112, 113], ar' k = ar k) (hD : NtM nb D sc' ar') : GM nb (zL Z, zR Z, zN Z, zs Z, zw Z, zv Z, D) sc' ar' := by
  refine ⟨?_, hD⟩
  have h0 := h.1
  rw [e1, e2 87 (by decide), e2 91 (by decide), e2 111 (by decide), e2 112 (by decide), e2 113 (by decide)]
  exact h0
theorem bo_feed {K : PK} {i : Nat} {g : PG} (h : INV i g) {a b c d0 e0 : Int} (ra : -2147483648 ≤ a ∧ a < 2147483648) (rb : -2147483648 ≤ b ∧ b < 2147483648) (rc : -2147483648 ≤ c ∧ c < 2147483648) (rd0 : -2147483648 ≤ d0 ∧ d0 < 2147483648) (re0 : -2147483648 ≤ e0 ∧ e0 < 2147483648) : Both K 105 155 [.int (iI a), .int (iI b), .int (iI c), .int (iI d0), .int (iI e0)] i g := by
  obtain ⟨sc, ar, tx, oc, rl, ou, tl, q, tp, nw, nb, W, B, Z, Zk, rs, J, r, e, n, rfl, hI⟩ := h
  obtain ⟨h1, h2, h3, h4, h5, h6, h7, h8, h9, h10, h11, h12, h13, h14, h15⟩ := id hI
  obtain ⟨_, _, c1, rfl, sc1, ar1, rfl, hs1, ha1, a1, a2⟩ := CQ.up (x_feed (K := K) (d := 0) (sc := sc) (ar := ar) (tx := tx) (oc := oc) (rl := rl) (ou := ou) (tl := tl) (q := q) ra rb rc rd0 re0 h1.1 h3.1 h3.2) (show 0 + 2 ≤ 60 by omega)
  have g4 := h4.mv hs1 ha1 rfl rfl
  obtain ⟨_, _, c2, rfl, sc2, ar2, rfl, hs2, ha2, b1, b2⟩ := CQ.up (m_feed (K := K) (d := 0) (sc := sc1) (ar := ar1) (tx := tx) (oc := oc) (rl := rl) (ou := ou) (tl := tl) (q := q) ra rb rc rd0 re0 h1.1 g4.1 g4.2) (show 0 + 2 ≤ 60 by omega)
  have hs : Same [101, 8000, 8006] sc sc2 := Same.tr (Same.w rfl hs1) (Same.w rfl hs2)
  have ha : Same [2, 81] ar ar2 := Same.tr (Same.w rfl ha1) (Same.w rfl ha2)
  have k3 : G1 (fdl tp a b c d0 e0) sc1 ar1 := ⟨a1, a2⟩
  exact ⟨_, _, _, c1, c2, ⟨_, rfl⟩, sc2, ar2, tx, oc, rl, ou, tl, q, fdl tp a b c d0 e0, nw, nb, W, B, Z, Zk, rs, J, r, e, n, rfl, fdl_ok a b c d0 e0 h1, h2, k3.mv hs2 ha2 rfl rfl, ⟨b1, b2⟩, h5.mv hs ha rfl rfl, h6.mv hs ha rfl rfl, h7.mv hs ha rfl rfl, h8.up, h9.up, h10.mv hs ha rfl rfl, h11.mv hs rfl, h12.mv (hs.in rfl) (ha.in rfl), h13.mv hs ha rfl rfl, h14.mv (hs 5 rfl), h15.up⟩
theorem bo_end {K : PK} {i : Nat} {g : PG} (h : INV i g) {a : Int} (ra : -2147483648 ≤ a ∧ a < 2147483648) : Both K 106 156 [.int (iI a)] i g := by
  obtain ⟨sc, ar, tx, oc, rl, ou, tl, q, tp, nw, nb, W, B, Z, Zk, rs, J, r, e, n, rfl, hI⟩ := h
  obtain ⟨h1, h2, h3, h4, h5, h6, h7, h8, h9, h10, h11, h12, h13, h14, h15⟩ := id hI
  have ht1 := h1.1
  have e1 := h3.1
  have e2 := h4.1
  by_cases c : 0 ≤ a ∧ a ≤ (tp.length : Int)
  · have c1 : CallR K 60 106 [.ref 0, .int (iI a)] (HW sc ar tx oc rl ou tl, q) (some (.int (iI 1))) (HW (usc sc 101 a) ar tx oc rl ou tl, q) := CallR.up (x_end_t (d := 0) ra (by omega) (by omega)) (by omega)
    have c2 : CallR K 60 156 [.ref 80, .int (iI a)] (HW (usc sc 101 a) ar tx oc rl ou tl, q) (some (.int (iI 1))) (HW (usc (usc (usc sc 101 a) 8000 0) 8006 a) ar tx oc rl ou tl, q) := CallR.up (m_end_t (d := 0) ra (by show 0 ≤ sc 8006 ∧ sc 8006 ≤ 160; omega) (by show 0 ≤ a ∧ a ≤ sc 8006; omega)) (by omega)
    have hs : Same [101, 8000, 8006] sc (usc (usc (usc sc 101 a) 8000 0) 8006 a) := (by repeat (first | exact Same.rf | refine Same.us rfl ?_))
    have ha : Same [] ar ar := Same.rf
    have el : a = ((tp.take a.toNat).length : Int) := by rw [List.length_take]; omega
    exact ⟨_, _, _, c1, c2, ⟨_, rfl⟩, _, ar, tx, oc, rl, ou, tl, q, tp.take a.toNat, nw, nb, W, B, Z, Zk, rs, J, r, e, n, rfl, h1.tk, h2, ⟨el, h3.2.tk⟩, ⟨el, h4.2.tk⟩, h5.mv hs ha rfl rfl, h6.mv hs ha rfl rfl, h7.mv hs ha rfl rfl, h8.up, h9.up, h10.mv hs ha rfl rfl, h11.mv hs rfl, h12.mv (hs.in rfl) (ha.in rfl), h13.mv hs ha rfl rfl, h14.mv (hs 5 rfl), h15.up⟩
  · exact both_s hI (CQ.s0 (CallR.up (x_end_f (d := 0) ra (by omega) (by omega)) (by omega))) (fun sc' ar' hI' => CQ.t (CQ.s8 (CallR.up (m_end_f (d := 0) ra (by have := hI'.g2.1; omega) (by have := hI'.g2.1; omega)) (by omega))))
theorem bo_change {K : PK} (hKK : KOK K) {i : Nat} {g : PG} (h : INV i g) {j v : Int} (rj : -2147483648 ≤ j ∧ j < 2147483648) (rv : -2147483648 ≤ v ∧ v < 2147483648) : Both K 112 188 [.int (iI j), .int (iI v)] i g := by
  obtain ⟨hK0, hK1, hK2, hK3, hK4, hK5, hK6, hK7, hK8, hK9, hK10, hK11, hK12, hK13⟩ := hKK
  obtain ⟨sc, ar, tx, oc, rl, ou, tl, q, tp, nw, nb, W, B, Z, Zk, rs, J, r, e, n, rfl, hI⟩ := h
  obtain ⟨h1, h2, h3, h4, h5, h6, h7, h8, h9, h10, h11, h12, h13, h14, h15⟩ := id hI
  have hn := h2.1
  have e1 : sc 304 = nb := h5.1.2.1
  have e2 : sc 8025 = nb := h5.2.1.2.1
  by_cases c : 0 < nb ∧ (0 ≤ j ∧ j ≤ 3) ∧ 0 ≤ v ∧ v ≤ lmo j
  · have c1 : CallR K 60 112 [.ref 0, .int (iI j), .int (iI v)] (HW sc ar tx oc rl ou tl, q) (some (.int (iI 1))) _ := CallR.up (x_change_t (d := 0) hK11 hK12 rj rv (by omega) (by rw [e1]; exact c)) (by omega)
    have c2 : CallR K 60 188 [.ref 80, .int (iI j), .int (iI v)] (HW (usc (usc (usc sc 7205 0) 7206 0) 7207 0) (usc ar 32 (usz (ar 32) j v)) tx oc rl ou tl, q) (some (.int (iI 1))) _ := CallR.up (m_change_t (d := 0) rj rv (by show 0 ≤ sc 8025 ∧ sc 8025 ≤ 3; omega) (by show 0 < sc 8025 ∧ _; rw [e2]; exact c)) (by omega)
    have hs : Same [7205, 7206, 7207, 8000] sc (usc (usc (usc (usc sc 7205 0) 7206 0) 7207 0) 8000 0) := (by repeat (first | exact Same.rf | refine Same.us rfl ?_))
    have ha : Same [32, 87] ar (usc (usc ar 32 (usz (ar 32) j v)) 87 (usz (ar 87) j v)) := (by repeat (first | exact Same.rf | refine Same.us rfl ?_))
    exact ⟨_, _, _, c1, c2, ⟨_, rfl⟩, _, _, tx, oc, rl, ou, tl, q, tp, nw, nb, W, B, (usz (zL Z) j v, Z.2), Zk, rs, J, r, e, n, rfl, h1, h2, h3.mv hs ha rfl rfl, h4.mv hs ha rfl rfl, h5.mv hs ha rfl rfl, ⟨⟨us_c h6.1.1, h6.1.2⟩, h6.2⟩, ⟨⟨us_c h7.1.1, h7.1.2⟩, h7.2⟩, ⟨⟨h8.1.1.us c.2.1 c.2.2, h8.1.2⟩, h8.2.1, h8.2.2.1, by have z8 : dN (zD Z) ≤ 40 * (i : Int) := h8.2.2.2; show dN (zD Z) ≤ 40 * ((i + 1 : Nat) : Int); omega⟩, h9.up, h10.mv hs ha rfl rfl, ⟨fl0 rfl, fl0 rfl, fl0 rfl, GC.ash h11 rfl rfl rfl rfl rfl rfl rfl⟩, h12.mv (hs.in rfl) (ha.in rfl), h13.mv hs ha rfl rfl, h14.mv (hs 5 rfl), h15.up⟩
  · exact both_s hI (CQ.s0 (CallR.up (x_change_f (d := 0) hK11 hK12 rj rv (by omega) (by rw [e1]; exact c)) (by omega))) (fun sc' ar' hI' => CQ.t (CQ.s8 (CallR.up (m_change_f (d := 0) rj rv (by have := hI'.M.2.1; omega) (by rw [show sc' 8025 = nb from hI'.M.2.1]; exact c)) (by omega))))
theorem bo_rule {K : PK} {i : Nat} {g : PG} (h : INV i g) {b k : Int} (rb : -2147483648 ≤ b ∧ b < 2147483648) (rk : -2147483648 ≤ k ∧ k < 2147483648) : Both K 113 189 [.int (iI b), .int (iI k)] i g := by
  obtain ⟨sc, ar, tx, oc, rl, ou, tl, q, tp, nw, nb, W, B, Z, Zk, rs, J, r, e, n, rfl, hI⟩ := h
  obtain ⟨h1, h2, h3, h4, h5, h6, h7, h8, h9, h10, h11, h12, h13, h14, h15⟩ := id hI
  have hn := h2.1
  have e1 : sc 304 = nb := h5.1.2.1
  have e2 : sc 8025 = nb := h5.2.1.2.1
  have e3 := h14.1
  have e4 := h13.1.1
  have e5 := h14.2.1
  by_cases c : (0 ≤ b ∧ b < nb) ∧ -1 ≤ k ∧ k < (rs.length : Int)
  · have c1 : CallR K 60 113 [.ref 0, .int (iI b), .int (iI k)] (HW sc ar tx oc rl ou tl, q) (some (.int (iI 1))) _ := CallR.up (x_rule_t (d := 0) rb rk (by omega) (by omega) (by omega)) (by omega)
    have c2 : CallR K 60 189 [.ref 80, .int (iI b), .int (iI k)] (HW sc (usc ar 33 (usz (ar 33) b k)) tx oc rl ou tl, q) (some (.int (iI 1))) _ := CallR.up (m_rule_t (d := 0) rb rk (by omega) (by omega) (by omega)) (by omega)
    have hs : Same [8000] sc (usc sc 8000 0) := (by repeat (first | exact Same.rf | refine Same.us rfl ?_))
    have ha : Same [33, 91] ar (usc (usc ar 33 (usz (ar 33) b k)) 91 (usz (ar 91) b k)) := (by repeat (first | exact Same.rf | refine Same.us rfl ?_))
    have hR : ∀ b', 0 ≤ b' → b' < nb → -1 ≤ usz (zR Z) b k b' ∧ usz (zR Z) b k b' < (rs.length : Int) := fun b' q0 q1 => by
      by_cases ee : b' = b
      · rw [ee, usz_s]; omega
      · rw [usz_n ee]; exact h8.2.2.1 b' q0 q1
    exact ⟨_, _, _, c1, c2, ⟨_, rfl⟩, _, _, tx, oc, rl, ou, tl, q, tp, nw, nb, W, B, (zL Z, usz (zR Z) b k, Z.2.2), Zk, rs, J, r, e, n, rfl, h1, h2, h3.mv hs ha rfl rfl, h4.mv hs ha rfl rfl, h5.mv hs ha rfl rfl, ⟨⟨h6.1.1, us_c h6.1.2.1, h6.1.2.2⟩, h6.2⟩, ⟨⟨h7.1.1, us_c h7.1.2.1, h7.1.2.2⟩, h7.2⟩, ⟨h8.1, h8.2.1, hR, by have z8 : dN (zD Z) ≤ 40 * (i : Int) := h8.2.2.2; show dN (zD Z) ≤ 40 * ((i + 1 : Nat) : Int); omega⟩, h9.up, h10.mv hs ha rfl rfl, (h11.mv hs rfl).cz rfl rfl rfl rfl rfl, h12.mv (hs.in rfl) (ha.in rfl), h13.mv hs ha rfl rfl, h14.mv (hs 5 rfl), h15.up⟩
  · exact both_s hI (CQ.s0 (CallR.up (x_rule_f (d := 0) rb rk (by omega) (by omega) (by omega)) (by omega))) (fun sc' ar' hI' => CQ.t (CQ.s8 (CallR.up (m_rule_f (d := 0) rb rk (by have := hI'.M.2.1; omega) (by have : sc' 8007 = (rs.length : Int) := hI'.2.2.2.2.2.2.2.2.2.2.2.2.1.1.1; omega) (by have := hI'.M.2.1; have : sc' 8007 = (rs.length : Int) := hI'.2.2.2.2.2.2.2.2.2.2.2.2.1.1.1; omega)) (by omega))))
theorem bo_ash {K : PK} {i : Nat} {g : PG} (h : INV i g) {s w v : Int} (rs9 : -2147483648 ≤ s ∧ s < 2147483648) (rw : -2147483648 ≤ w ∧ w < 2147483648) (rv : -2147483648 ≤ v ∧ v < 2147483648) : Both K 125 219 [.int (iI s), .int (iI w), .int (iI v)] i g := by
  obtain ⟨sc, ar, tx, oc, rl, ou, tl, q, tp, nw, nb, W, B, Z, Zk, rs, J, r, e, n, rfl, hI⟩ := h
  obtain ⟨h1, h2, h3, h4, h5, h6, h7, h8, h9, h10, h11, h12, h13, h14, h15⟩ := id hI
  have hn := h2.1
  have e1 : sc 3105 = zN Z := h6.1.2.2.1
  have e2 : sc 8056 = zN Z := h7.1.2.2.1
  have e3 := h8.2.1.1
  by_cases c : 0 < nb ∧ zN Z < 10 ∧ ((s = 0 ∧ (0 ≤ w ∧ w < 6) ∧ (0 ≤ v ∧ v ≤ 1)) ∨ (s = 1 ∧ (0 ≤ w ∧ w < nw) ∧ (0 ≤ v ∧ v ≤ 9)))
  · have c1 := CallR.up (x_ash_t (K := K) (d := 0) (sc := sc) (ar := ar) (tx := tx) (oc := oc) (rl := rl) (ou := ou) (tl := tl) (q := q) h2 h5.1 (by omega) rs9 rw rv (by rw [e1]; exact c)) (show 0 + 2 ≤ 60 by omega)
    have c2 := CallR.up (m_ash_t (K := K) (d := 0) (sc := (usc (usc sc 3105 (sc 3105 + 1)) 7703 0)) (ar := (usc (usc (usc ar 34 (usz (ar 34) (sc 3105) s)) 35 (usz (ar 35) (sc 3105) w)) 36 (usz (ar 36) (sc 3105) v))) (tx := tx) (oc := oc) (rl := rl) (ou := ou) (tl := tl) (q := q) h2 h5.2.1 (by show 0 ≤ sc 8056 ∧ sc 8056 ≤ 10; omega) rs9 rw rv (by show 0 < nb ∧ sc 8056 < 10 ∧ _; rw [e2]; exact c)) (show 0 + 2 ≤ 60 by omega)
    rw [show (usc (usc sc 3105 (sc 3105 + 1)) 7703 0) 8056 = sc 3105 from e2.trans e1.symm] at c2
    have hs : Same [3105, 7703, 8000, 8056] sc (usc (usc (usc (usc sc 3105 (sc 3105 + 1)) 7703 0) 8000 0) 8056 (sc 3105 + 1)) := (by repeat (first | exact Same.rf | refine Same.us rfl ?_))
    have ha : Same [34, 35, 36, 111, 112, 113] ar (usc (usc (usc (usc (usc (usc ar 34 (usz (ar 34) (sc 3105) s)) 35 (usz (ar 35) (sc 3105) w)) 36 (usz (ar 36) (sc 3105) v)) 111 (usz (ar 111) (sc 3105) s)) 112 (usz (ar 112) (sc 3105) w)) 113 (usz (ar 113) (sc 3105) v)) := (by repeat (first | exact Same.rf | refine Same.us rfl ?_))
    have hA : ∀ (f g f2 g2 f3 g3 : Int → Int), (∀ k, 0 ≤ k → k < zN Z → f k = g k ∧ f2 k = g2 k ∧ f3 k = g3 k) → ∀ k, 0 ≤ k → k < zN Z + 1 → usz f (sc 3105) s k = usz g (zN Z) s k ∧ usz f2 (sc 3105) w k = usz g2 (zN Z) w k ∧ usz f3 (sc 3105) v k = usz g3 (zN Z) v k := fun f g f2 g2 f3 g3 hh k k0 k1 => by
      rw [e1]
      by_cases ee : k = zN Z
      · rw [ee, usz_s, usz_s, usz_s, usz_s, usz_s, usz_s]; exact ⟨rfl, rfl, rfl⟩
      · rw [usz_n ee, usz_n ee, usz_n ee, usz_n ee, usz_n ee, usz_n ee]; exact hh k k0 (by omega)
    have hB : AsOK nw (zL Z, zR Z, zN Z + 1, usz (zs Z) (zN Z) s, usz (zw Z) (zN Z) w, usz (zv Z) (zN Z) v, zD Z) := ⟨by show 0 ≤ zN Z + 1 ∧ zN Z + 1 ≤ 10; omega, fun k k0 k1 => by
      have k1' : k < zN Z + 1 := k1
      show (usz (zs Z) (zN Z) s k = 0 ∧ (0 ≤ usz (zw Z) (zN Z) w k ∧ usz (zw Z) (zN Z) w k < 6) ∧ (0 ≤ usz (zv Z) (zN Z) v k ∧ usz (zv Z) (zN Z) v k ≤ 1)) ∨ (usz (zs Z) (zN Z) s k = 1 ∧ (0 ≤ usz (zw Z) (zN Z) w k ∧ usz (zw Z) (zN Z) w k < nw) ∧ (0 ≤ usz (zv Z) (zN Z) v k ∧ usz (zv Z) (zN Z) v k ≤ 9))
      by_cases ee : k = zN Z
      · rw [ee, usz_s, usz_s, usz_s]; exact c.2.2
      · rw [usz_n ee, usz_n ee, usz_n ee]; exact h8.2.1.2 k k0 (by omega)⟩
    have e4 : sc 3105 + 1 = zN Z + 1 := by omega
    exact ⟨_, _, _, c1, c2, ⟨_, rfl⟩, _, _, tx, oc, rl, ou, tl, q, tp, nw, nb, W, B, (zL Z, zR Z, zN Z + 1, usz (zs Z) (zN Z) s, usz (zw Z) (zN Z) w, usz (zv Z) (zN Z) v, zD Z), Zk, rs, J, r, e, n, rfl, h1, h2, h3.mv hs ha rfl rfl, h4.mv hs ha rfl rfl, h5.mv hs ha rfl rfl, ⟨⟨h6.1.1, h6.1.2.1, e4, hA _ _ _ _ _ _ h6.1.2.2.2⟩, h6.2⟩, ⟨⟨h7.1.1, h7.1.2.1, e4, hA _ _ _ _ _ _ h7.1.2.2.2⟩, h7.2⟩, ⟨⟨h8.1.1, hB.1, h8.1.2.2⟩, hB, h8.2.2.1, by have z8 : dN (zD Z) ≤ 40 * (i : Int) := h8.2.2.2; show dN (zD Z) ≤ 40 * ((i + 1 : Nat) : Int); omega⟩, h9.up, h10.mv hs ha rfl rfl, ⟨h11.1, h11.2.1, h11.2.2.1, fl0 rfl⟩, h12.mv (hs.in rfl) (ha.in rfl), h13.mv hs ha rfl rfl, h14.mv (hs 5 rfl), h15.up⟩
  · exact both_s hI (CQ.s0 (CallR.up (x_ash_f (d := 0) h2 h5.1 (by omega) rs9 rw rv (by rw [e1]; exact c)) (by omega))) (fun sc' ar' hI' => CQ.t (CQ.s8 (CallR.up (m_ash_f (d := 0) h2 hI'.M (by have : sc' 8056 = zN Z := hI'.2.2.2.2.2.2.1.1.2.2.1; omega) rs9 rw rv (by rw [show sc' 8056 = zN Z from hI'.2.2.2.2.2.2.1.1.2.2.1]; exact c)) (by omega))))
theorem bo_night {K : PK} {i : Nat} {g : PG} (h : INV i g) {row : Int} (rrow : -2147483648 ≤ row ∧ row < 2147483648) (hi : i ≤ 600) : Both K 131 228 [.int (iI row)] i g := by
  obtain ⟨sc, ar, tx, oc, rl, ou, tl, q, tp, nw, nb, W, B, Z, Zk, rs, J, r, e, n, rfl, hI⟩ := h
  obtain ⟨h1, h2, h3, h4, h5, h6, h7, h8, h9, h10, h11, h12, h13, h14, h15⟩ := id hI
  have z8 : dN (zD Z) ≤ 40 * (i : Int) := h8.2.2.2
  have hD : NtOK nb (if rok nw nb W B row then nst nb (sS (svn nb W B (prow nb row))) (gnr nw nb W B (zL Z) (prow nb row)) (zD Z) else zD Z) ∧ dN (if rok nw nb W B row then nst nb (sS (svn nb W B (prow nb row))) (gnr nw nb W B (zL Z) (prow nb row)) (zD Z) else zD Z) ≤ 40 * ((i + 1 : Nat) : Int) := by split; (· exact ⟨hI.nt.st (by omega) _ _, by show dN (zD Z) + 1 ≤ _; omega⟩); exact ⟨hI.nt, by omega⟩
  obtain ⟨_, _, c1, rfl, sc1, ar1, rfl, hs1, ha1, a1⟩ := CQ.up (x_night (K := K) (d := 0) (sc := sc) (ar := ar) (tx := tx) (oc := oc) (rl := rl) (ou := ou) (tl := tl) (q := q) h2 h5.1 hI.lx hI.L hI.nt hI.nx rrow) (show 0 + 6 ≤ 60 by omega)
  have g5 := h5.mv hs1 ha1 rfl rfl
  have g7 := h7.mv hs1 ha1 rfl rfl
  obtain ⟨_, _, c2, rfl, sc2, ar2, rfl, hs2, ha2, b1⟩ := CQ.up (m_night (K := K) (d := 0) (sc := sc1) (ar := ar1) (tx := tx) (oc := oc) (rl := rl) (ou := ou) (tl := tl) (q := q) h2 g5.2.1 g5.2.2 g7.1.1 hI.L hI.nt g7.2 rrow) (show 0 + 5 ≤ 60 by omega)
  have hs : Same (nxF2 ++ nmF2) sc sc2 := Same.tr (Same.w rfl hs1) (Same.w rfl hs2)
  have ha : Same (nxA2 ++ nmA2) ar ar2 := Same.tr (Same.w rfl ha1) (Same.w rfl ha2)
  have k6 := (h6.dn (D := if rok nw nb W B row then nst nb (sS (svn nb W B (prow nb row))) (gnr nw nb W B (zL Z) (prow nb row)) (zD Z) else zD Z) (sc' := sc1) (ar' := ar1) (hs1 3105 rfl) (ha1.in rfl) a1).mv hs2 ha2 rfl rfl
  have k7 := g7.dn (D := if rok nw nb W B row then nst nb (sS (svn nb W B (prow nb row))) (gnr nw nb W B (zL Z) (prow nb row)) (zD Z) else zD Z) (sc' := sc2) (ar' := ar2) (hs2 8056 rfl) (ha2.in rfl) b1
  exact ⟨_, _, _, c1, c2, ⟨_, rfl⟩, sc2, ar2, tx, oc, rl, ou, tl, q, tp, nw, nb, W, B, (zL Z, zR Z, zN Z, zs Z, zw Z, zv Z, if rok nw nb W B row then nst nb (sS (svn nb W B (prow nb row))) (gnr nw nb W B (zL Z) (prow nb row)) (zD Z) else zD Z), Zk, rs, J, r, e, n, rfl, h1, h2, h3.mv hs ha rfl rfl, h4.mv hs ha rfl rfl, h5.mv hs ha rfl rfl, k6, k7, h8.dn hD.1 hD.2, h9.up, h10.mv hs ha rfl rfl, (h11.mv hs rfl).cz rfl rfl rfl rfl rfl, h12.mv (hs.in rfl) (ha.in rfl), h13.mv hs ha rfl rfl, h14.mv (hs 5 rfl), h15.up⟩
theorem bo_undo {K : PK} {i : Nat} {g : PG} (h : INV i g)  : Both K 133 230 [] i g := by
  obtain ⟨sc, ar, tx, oc, rl, ou, tl, q, tp, nw, nb, W, B, Z, Zk, rs, J, r, e, n, rfl, hI⟩ := h
  obtain ⟨h1, h2, h3, h4, h5, h6, h7, h8, h9, h10, h11, h12, h13, h14, h15⟩ := id hI
  have z8 : dN (zD Z) ≤ 40 * (i : Int) := h8.2.2.2
  have hD : NtOK nb (if 0 < dU (zD Z) then nun (zD Z) else zD Z) ∧ dN (if 0 < dU (zD Z) then nun (zD Z) else zD Z) ≤ 40 * ((i + 1 : Nat) : Int) := by split; (· rename_i hu; exact ⟨hI.nt.un hu, by show dN (zD Z) - 1 ≤ _; omega⟩); exact ⟨hI.nt, by omega⟩
  obtain ⟨_, _, c1, rfl, sc1, ar1, rfl, hs1, ha1, a1⟩ := CQ.up (x_undo (K := K) (d := 0) (sc := sc) (ar := ar) (tx := tx) (oc := oc) (rl := rl) (ou := ou) (tl := tl) (q := q) hI.nt hI.nx) (show 0 + 4 ≤ 60 by omega)
  have g5 := h5.mv hs1 ha1 rfl rfl
  have g7 := h7.mv hs1 ha1 rfl rfl
  obtain ⟨_, _, c2, rfl, sc2, ar2, rfl, hs2, ha2, b1⟩ := CQ.up (m_undo (K := K) (d := 0) (sc := sc1) (ar := ar1) (tx := tx) (oc := oc) (rl := rl) (ou := ou) (tl := tl) (q := q) h2 g5.2.1 hI.nt g7.2) (show 0 + 1 ≤ 60 by omega)
  have hs : Same (nxF2 ++ nmF2) sc sc2 := Same.tr (Same.w rfl hs1) (Same.w rfl hs2)
  have ha : Same (nxA2 ++ nmA2) ar ar2 := Same.tr (Same.w rfl ha1) (Same.w rfl ha2)
  have k6 := (h6.dn (D := if 0 < dU (zD Z) then nun (zD Z) else zD Z) (sc' := sc1) (ar' := ar1) (hs1 3105 rfl) (ha1.in rfl) a1).mv hs2 ha2 rfl rfl
  have k7 := g7.dn (D := if 0 < dU (zD Z) then nun (zD Z) else zD Z) (sc' := sc2) (ar' := ar2) (hs2 8056 rfl) (ha2.in rfl) b1
  exact ⟨_, _, _, c1, c2, ⟨_, rfl⟩, sc2, ar2, tx, oc, rl, ou, tl, q, tp, nw, nb, W, B, (zL Z, zR Z, zN Z, zs Z, zw Z, zv Z, if 0 < dU (zD Z) then nun (zD Z) else zD Z), Zk, rs, J, r, e, n, rfl, h1, h2, h3.mv hs ha rfl rfl, h4.mv hs ha rfl rfl, h5.mv hs ha rfl rfl, k6, k7, h8.dn hD.1 hD.2, h9.up, h10.mv hs ha rfl rfl, (h11.mv hs rfl).cz rfl rfl rfl rfl rfl, h12.mv (hs.in rfl) (ha.in rfl), h13.mv hs ha rfl rfl, h14.mv (hs 5 rfl), h15.up⟩
theorem bo_drawn {K : PK} {i : Nat} {g : PG} (h : INV i g) {k : Int} {s : Int64} (rk : -2147483648 ≤ k ∧ k < 2147483648) (hi : i ≤ 600) : Both K 132 229 [.int (iI k), .long s] i g := by
  obtain ⟨sc, ar, tx, oc, rl, ou, tl, q, tp, nw, nb, W, B, Z, Zk, rs, J, r, e, n, rfl, hI⟩ := h
  obtain ⟨h1, h2, h3, h4, h5, h6, h7, h8, h9, h10, h11, h12, h13, h14, h15⟩ := id hI
  have z8 : dN (zD Z) ≤ 40 * (i : Int) := h8.2.2.2
  have hD : NtOK nb (if (0 < nb ∧ 1 ≤ k ∧ k ≤ 40) then dnt nw nb W B (zL Z) k.toNat s (zD Z) else zD Z) ∧ dN (if (0 < nb ∧ 1 ≤ k ∧ k ≤ 40) then dnt nw nb W B (zL Z) k.toNat s (zD Z) else zD Z) ≤ 40 * ((i + 1 : Nat) : Int) := by split; (· rename_i hk; have := dnt_n (nw := nw) (W := W) (B := B) (law := zL Z) k.toNat s (zD Z) hI.nt (by omega); exact ⟨this.1, by omega⟩); exact ⟨hI.nt, by omega⟩
  obtain ⟨_, _, c1, rfl, sc1, ar1, rfl, hs1, ha1, a1⟩ := CQ.up (x_drawn (K := K) (d := 0) (sc := sc) (ar := ar) (tx := tx) (oc := oc) (rl := rl) (ou := ou) (tl := tl) (q := q) h2 h5.1 hI.lx hI.L hI.nt hI.nx rk (by omega)) (show 0 + 6 ≤ 60 by omega)
  have g5 := h5.mv hs1 ha1 rfl rfl
  have g7 := h7.mv hs1 ha1 rfl rfl
  obtain ⟨_, _, c2, rfl, sc2, ar2, rfl, hs2, ha2, b1⟩ := CQ.up (m_drawn (K := K) (d := 0) (sc := sc1) (ar := ar1) (tx := tx) (oc := oc) (rl := rl) (ou := ou) (tl := tl) (q := q) h2 g5.2.1 g7.1.1 hI.L hI.nt g7.2 rk (by omega)) (show 0 + 5 ≤ 60 by omega)
  have hs : Same (nxF2 ++ nmF2) sc sc2 := Same.tr (Same.w rfl hs1) (Same.w rfl hs2)
  have ha : Same (nxA2 ++ nmA2) ar ar2 := Same.tr (Same.w rfl ha1) (Same.w rfl ha2)
  have k6 := (h6.dn (D := if (0 < nb ∧ 1 ≤ k ∧ k ≤ 40) then dnt nw nb W B (zL Z) k.toNat s (zD Z) else zD Z) (sc' := sc1) (ar' := ar1) (hs1 3105 rfl) (ha1.in rfl) a1).mv hs2 ha2 rfl rfl
  have k7 := g7.dn (D := if (0 < nb ∧ 1 ≤ k ∧ k ≤ 40) then dnt nw nb W B (zL Z) k.toNat s (zD Z) else zD Z) (sc' := sc2) (ar' := ar2) (hs2 8056 rfl) (ha2.in rfl) b1
  exact ⟨_, _, _, c1, c2, ⟨_, rfl⟩, sc2, ar2, tx, oc, rl, ou, tl, q, tp, nw, nb, W, B, (zL Z, zR Z, zN Z, zs Z, zw Z, zv Z, if (0 < nb ∧ 1 ≤ k ∧ k ≤ 40) then dnt nw nb W B (zL Z) k.toNat s (zD Z) else zD Z), Zk, rs, J, r, e, n, rfl, h1, h2, h3.mv hs ha rfl rfl, h4.mv hs ha rfl rfl, h5.mv hs ha rfl rfl, k6, k7, h8.dn hD.1 hD.2, h9.up, h10.mv hs ha rfl rfl, (h11.mv hs rfl).cz rfl rfl rfl rfl rfl, h12.mv (hs.in rfl) (ha.in rfl), h13.mv hs ha rfl rfl, h14.mv (hs 5 rfl), h15.up⟩
theorem bo_image {K : PK} {i : Nat} {g : PG} (h : INV i g)  : Both K 134 233 [] i g := by
  obtain ⟨sc, ar, tx, oc, rl, ou, tl, q, tp, nw, nb, W, B, Z, Zk, rs, J, r, e, n, rfl, hI⟩ := h
  obtain ⟨h1, h2, h3, h4, h5, h6, h7, h8, h9, h10, h11, h12, h13, h14, h15⟩ := id hI
  obtain ⟨_, _, c1, rfl, sc1, ar1, rfl, hs1, ha1, a1, a2⟩ := CQ.up (x_image (K := K) (d := 0) (sc := sc) (ar := ar) (tx := tx) (oc := oc) (rl := rl) (ou := ou) (tl := tl) (q := q) h2 h5.1 h8.1 h6) (show 0 + 2 ≤ 60 by omega)
  have g5 := h5.mv hs1 ha1 rfl rfl
  have g7 := h7.mv hs1 ha1 rfl rfl
  obtain ⟨_, _, c2, rfl, sc2, ar2, rfl, hs2, ha2, b1, b2⟩ := CQ.up (m_image (K := K) (d := 0) (sc := sc1) (ar := ar1) (tx := tx) (oc := oc) (rl := rl) (ou := ou) (tl := tl) (q := q) h2 g5.2.1 h8.1 g7) (show 0 + 2 ≤ 60 by omega)
  have hs : Same [8, 4105, 4106, 4107, 8000, 8061, 8062, 8063, 8064, 8065] sc sc2 := Same.tr (Same.w rfl hs1) (Same.w rfl hs2)
  have ha : Same [42, 43, 44, 45, 46, 47, 48, 49, 50, 116] ar ar2 := Same.tr (Same.w rfl ha1) (Same.w rfl ha2)
  by_cases c : 0 < nb
  · have k10 : GI nb Z sc2 ar2 := by
      obtain ⟨x1, x2⟩ := a1 c
      obtain ⟨y1, y2⟩ := b1 c
      have e8 : sc2 8 = 1 := (hs2 8 rfl).trans x1
      refine ⟨Or.inr e8, y1.trans e8.symm, fun _ => ⟨?_, y2⟩⟩
      have e1 := hs2.in (K := [4105, 4106, 4107]) rfl
      have e2 := ha2.in (K := [42, 43, 44, 45, 46, 47, 48, 49, 50]) rfl
      rw [e1 4105 (by decide), e1 4106 (by decide), e1 4107 (by decide), e2 42 (by decide), e2 43 (by decide), e2 44 (by decide), e2 45 (by decide), e2 46 (by decide), e2 47 (by decide), e2 48 (by decide), e2 49 (by decide), e2 50 (by decide)]
      exact x2
    exact ⟨_, _, _, c1, c2, ⟨_, rfl⟩, sc2, ar2, tx, oc, rl, ou, tl, q, tp, nw, nb, W, B, Z, Z, rs, J, r, e, n, rfl, h1, h2, h3.mv hs ha rfl rfl, h4.mv hs ha rfl rfl, h5.mv hs ha rfl rfl, h6.mv hs ha rfl rfl, h7.mv hs ha rfl rfl, h8.up, h8.up, k10, h11.mv hs rfl, h12.mv (hs.in rfl) (ha.in rfl), h13.mv hs ha rfl rfl, h14.mv (hs 5 rfl), h15.up⟩
  · obtain ⟨x1, x2⟩ := a2 c
    obtain ⟨y1, y2⟩ := b2 c
    subst x1 x2 y1 y2
    have hs' : Same [8000] sc1 (usc sc1 8000 0) := Same.us rfl Same.rf
    have ha' : Same [] ar2 ar2 := Same.rf
    exact ⟨_, _, _, c1, c2, ⟨_, rfl⟩, _, _, tx, oc, rl, ou, tl, q, tp, nw, nb, W, B, Z, Zk, rs, J, r, e, n, rfl, h1, h2, h3.mv hs ha rfl rfl, h4.mv hs ha rfl rfl, h5.mv hs ha rfl rfl, h6.mv hs ha rfl rfl, h7.mv hs ha rfl rfl, h8.up, h9.up, h10.mv hs' ha' rfl rfl, h11.mv hs rfl, h12.mv (hs.in rfl) (ha.in rfl), h13.mv hs ha rfl rfl, h14.mv (hs 5 rfl), h15.up⟩
theorem bo_back {K : PK} {i : Nat} {g : PG} (h : INV i g)  : Both K 135 234 [] i g := by
  obtain ⟨sc, ar, tx, oc, rl, ou, tl, q, tp, nw, nb, W, B, Z, Zk, rs, J, r, e, n, rfl, hI⟩ := h
  obtain ⟨h1, h2, h3, h4, h5, h6, h7, h8, h9, h10, h11, h12, h13, h14, h15⟩ := id hI
  have hn := h2.1
  have i1 := h10.1
  have i2 := h10.2.1
  obtain ⟨_, _, c1, rfl, sc1, ar1, rfl, hs1, ha1, a1, a2⟩ := CQ.up (x_back (K := K) (d := 0) (sc := sc) (ar := ar) (tx := tx) (oc := oc) (rl := rl) (ou := ou) (tl := tl) (q := q) (nb := nb) (by omega) h9.1 (fun z => (h10.2.2 z).1)) (show 0 + 2 ≤ 60 by omega)
  have g10 := h10.mv hs1 ha1 rfl rfl
  have e8 : sc1 8 = sc 8 := hs1 8 rfl
  have j2 : sc1 8065 = sc1 8 := g10.2.1
  obtain ⟨_, _, c2, rfl, sc2, ar2, rfl, hs2, ha2, b1, b2⟩ := CQ.up (m_back (K := K) (d := 0) (sc := sc1) (ar := ar1) (tx := tx) (oc := oc) (rl := rl) (ou := ou) (tl := tl) (q := q) (nb := nb) (by omega) (by omega) h9.1 (fun z => (g10.2.2 (j2.symm.trans z)).2)) (show 0 + 2 ≤ 60 by omega)
  rw [show (if sc1 8065 = 1 then dN (zD Zk) else -1) = (if sc 8 = 1 then dN (zD Zk) else -1) by rw [j2, e8]] at c2
  have hs : Same [3105, 3106, 3107, 7205, 7206, 7207, 7703, 8000, 8032, 8056, 8059, 8064] sc sc2 := Same.tr (Same.w rfl hs1) (Same.w rfl hs2)
  have ha : Same [32, 33, 34, 35, 36, 37, 38, 39, 40, 87, 91, 92, 93, 111, 112, 113, 114, 115] ar ar2 := Same.tr (Same.w rfl ha1) (Same.w rfl ha2)
  by_cases c : sc 8 = 1
  · obtain ⟨x1, x2, x3, x4, x5⟩ := a1 c
    have y1 := b1 (by omega)
    have k6 : GX Zk sc1 ar1 := x1
    have k11 : GC nw nb W B Zk r e sc2 := ⟨fl0 ((hs2 7205 rfl).trans x2), fl0 ((hs2 7206 rfl).trans x3), fl0 ((hs2 7207 rfl).trans x4), fl0 ((hs2 7703 rfl).trans x5)⟩
    exact ⟨_, _, _, c1, c2, ⟨_, rfl⟩, sc2, ar2, tx, oc, rl, ou, tl, q, tp, nw, nb, W, B, Zk, Zk, rs, J, r, e, n, rfl, h1, h2, h3.mv hs ha rfl rfl, h4.mv hs ha rfl rfl, h5.mv hs ha rfl rfl, k6.mv hs2 ha2 rfl rfl, y1, h9.up, h9.up, h10.mv hs ha rfl rfl, k11, h12.mv (hs.in rfl) (ha.in rfl), h13.mv hs ha rfl rfl, h14.mv (hs 5 rfl), h15.up⟩
  · obtain ⟨x1, x2⟩ := a2 c
    obtain ⟨y1, y2⟩ := b2 (by omega)
    subst x1 x2 y1 y2
    have hs' : Same [8000] sc1 (usc sc1 8000 0) := Same.us rfl Same.rf
    have ha' : Same [] ar2 ar2 := Same.rf
    exact ⟨_, _, _, c1, c2, ⟨_, rfl⟩, _, _, tx, oc, rl, ou, tl, q, tp, nw, nb, W, B, Z, Zk, rs, J, r, e, n, rfl, h1, h2, h3.mv hs' ha' rfl rfl, h4.mv hs' ha' rfl rfl, h5.mv hs' ha' rfl rfl, h6.mv hs' ha' rfl rfl, h7.mv hs' ha' rfl rfl, h8.up, h9.up, h10.mv hs' ha' rfl rfl, h11.mv hs' rfl, h12.mv (hs'.in rfl) (ha'.in rfl), h13.mv hs' ha' rfl rfl, h14.mv (hs' 5 rfl), h15.up⟩
