/-! what holds between calls of the law, by wip/tools -/
/-! what holds between calls of the law -/
theorem Same.in {α : Type} {l K : List Nat} {f g : Nat → α} (h : Same l f g) (hd : K.all (fun k => !(l.elem k)) = true) : ∀ k ∈ K, g k = f k := fun k hk => h k (by
  have := List.all_eq_true.mp hd k hk
  simpa using this)
def G1 (tp : List Int) (sc : Nat → Int) (ar : Nat → Int → Int) : Prop := sc 101 = (tp.length : Int) ∧ LAt (fun v => v) (ar 2) tp
theorem G1.mv {tp : List Int} {sc sc' : Nat → Int} {ar ar' : Nat → Int → Int} {L M : List Nat} (hs : Same L sc sc') (ha : Same M ar ar') (d1 : [101].all (fun k => !(L.elem k)) = true) (d2 : [2].all (fun k => !(M.elem k)) = true) (h : G1 tp sc ar) : G1 tp sc' ar' := by
  have e1 := hs.in d1
  have e2 := ha.in d2
  unfold G1 at h ⊢
  rw [e1 101 (by decide), e2 2 (by decide)]
  exact h
def G2 (tp : List Int) (sc : Nat → Int) (ar : Nat → Int → Int) : Prop := sc 8006 = (tp.length : Int) ∧ LAt sgb (ar 81) tp
theorem G2.mv {tp : List Int} {sc sc' : Nat → Int} {ar ar' : Nat → Int → Int} {L M : List Nat} (hs : Same L sc sc') (ha : Same M ar ar') (d1 : [8006].all (fun k => !(L.elem k)) = true) (d2 : [81].all (fun k => !(M.elem k)) = true) (h : G2 tp sc ar) : G2 tp sc' ar' := by
  have e1 := hs.in d1
  have e2 := ha.in d2
  unfold G2 at h ⊢
  rw [e1 8006 (by decide), e2 81 (by decide)]
  exact h
def GF (nw nb : Int) (W B : Int → Int → Int) (sc : Nat → Int) (ar : Nat → Int → Int) : Prop := FrX (sc 303) (sc 304) (ar 5) (ar 6) (ar 7) (ar 8) (ar 10) (ar 11) (ar 12) nw nb W B ∧ FrM (sc 8024) (sc 8025) (ar 85) (ar 86) nw nb W B ∧ PMx nw nb W B (ar 94) (ar 95)
theorem GF.mv {nw nb : Int} {W B : Int → Int → Int} {sc sc' : Nat → Int} {ar ar' : Nat → Int → Int} {L M : List Nat} (hs : Same L sc sc') (ha : Same M ar ar') (d1 : [303, 304, 8024, 8025].all (fun k => !(L.elem k)) = true) (d2 : [5, 6, 7, 8, 10, 11, 12, 85, 86, 94, 95].all (fun k => !(M.elem k)) = true) (h : GF nw nb W B sc ar) : GF nw nb W B sc' ar' := by
  have e1 := hs.in d1
  have e2 := ha.in d2
  unfold GF at h ⊢
  rw [e1 303 (by decide), e1 304 (by decide), e1 8024 (by decide), e1 8025 (by decide), e2 5 (by decide), e2 6 (by decide), e2 7 (by decide), e2 8 (by decide), e2 10 (by decide), e2 11 (by decide), e2 12 (by decide), e2 85 (by decide), e2 86 (by decide), e2 94 (by decide), e2 95 (by decide)]
  exact h
def GX (Z : SS) (sc : Nat → Int) (ar : Nat → Int → Int) : Prop := SeA Z (sc 3105) (sc 3106) (sc 3107) (ar 32) (ar 33) (ar 34) (ar 35) (ar 36) (ar 37) (ar 38) (ar 39) (ar 40)
theorem GX.mv {Z : SS} {sc sc' : Nat → Int} {ar ar' : Nat → Int → Int} {L M : List Nat} (hs : Same L sc sc') (ha : Same M ar ar') (d1 : [3105, 3106, 3107].all (fun k => !(L.elem k)) = true) (d2 : [32, 33, 34, 35, 36, 37, 38, 39, 40].all (fun k => !(M.elem k)) = true) (h : GX Z sc ar) : GX Z sc' ar' := by
  have e1 := hs.in d1
  have e2 := ha.in d2
  unfold GX at h ⊢
  rw [e1 3105 (by decide), e1 3106 (by decide), e1 3107 (by decide), e2 32 (by decide), e2 33 (by decide), e2 34 (by decide), e2 35 (by decide), e2 36 (by decide), e2 37 (by decide), e2 38 (by decide), e2 39 (by decide), e2 40 (by decide)]
  exact h
def GM (nb : Int) (Z : SS) (sc : Nat → Int) (ar : Nat → Int → Int) : Prop := SeB nb Z (sc 8056) (sc 8032) (sc 8059) (ar 87) (ar 91) (ar 111) (ar 112) (ar 113) (ar 92) (ar 93) (ar 114) (ar 115)
theorem GM.mv {nb : Int} {Z : SS} {sc sc' : Nat → Int} {ar ar' : Nat → Int → Int} {L M : List Nat} (hs : Same L sc sc') (ha : Same M ar ar') (d1 : [8056, 8032, 8059].all (fun k => !(L.elem k)) = true) (d2 : [87, 91, 111, 112, 113, 92, 93, 114, 115].all (fun k => !(M.elem k)) = true) (h : GM nb Z sc ar) : GM nb Z sc' ar' := by
  have e1 := hs.in d1
  have e2 := ha.in d2
  unfold GM at h ⊢
  rw [e1 8056 (by decide), e1 8032 (by decide), e1 8059 (by decide), e2 87 (by decide), e2 91 (by decide), e2 111 (by decide), e2 112 (by decide), e2 113 (by decide), e2 92 (by decide), e2 93 (by decide), e2 114 (by decide), e2 115 (by decide)]
  exact h
def GI (nb : Int) (Zk : SS) (sc : Nat → Int) (ar : Nat → Int → Int) : Prop := (sc 8 = 0 ∨ sc 8 = 1) ∧ sc 8065 = sc 8 ∧ (sc 8 = 1 → SeA Zk (sc 4105) (sc 4106) (sc 4107) (ar 42) (ar 43) (ar 44) (ar 45) (ar 46) (ar 47) (ar 48) (ar 49) (ar 50) ∧ SeB nb Zk (sc 8063) (sc 8061) (sc 8062) (fun j => ar 116 (9 + j)) (fun j => ar 116 (0 + j)) (fun j => ar 116 (13 + j)) (fun j => ar 116 (23 + j)) (fun j => ar 116 (33 + j)) (fun j => ar 116 (3 + j)) (fun j => ar 116 (6 + j)) (fun j => ar 116 (43 + j)) (fun j => ar 116 (163 + j)))
theorem GI.mv {nb : Int} {Zk : SS} {sc sc' : Nat → Int} {ar ar' : Nat → Int → Int} {L M : List Nat} (hs : Same L sc sc') (ha : Same M ar ar') (d1 : [8, 8065, 4105, 4106, 4107, 8063, 8061, 8062].all (fun k => !(L.elem k)) = true) (d2 : [42, 43, 44, 45, 46, 47, 48, 49, 50, 116].all (fun k => !(M.elem k)) = true) (h : GI nb Zk sc ar) : GI nb Zk sc' ar' := by
  have e1 := hs.in d1
  have e2 := ha.in d2
  unfold GI at h ⊢
  rw [e1 8 (by decide), e1 8065 (by decide), e1 4105 (by decide), e1 4106 (by decide), e1 4107 (by decide), e1 8063 (by decide), e1 8061 (by decide), e1 8062 (by decide), e2 42 (by decide), e2 43 (by decide), e2 44 (by decide), e2 45 (by decide), e2 46 (by decide), e2 47 (by decide), e2 48 (by decide), e2 49 (by decide), e2 50 (by decide), e2 116 (by decide)]
  exact h
def GT (rs : List (List Int)) (sc : Nat → Int) (ar : Nat → Int → Int) : Prop := RuM rs (sc 8007) (ar 82) (ar 83) ∧ LtOK ar
theorem GT.mv {rs : List (List Int)} {sc sc' : Nat → Int} {ar ar' : Nat → Int → Int} {L M : List Nat} (hs : Same L sc sc') (ha : Same M ar ar') (d1 : [8007].all (fun k => !(L.elem k)) = true) (d2 : [82, 83, 84].all (fun k => !(M.elem k)) = true) (h : GT rs sc ar) : GT rs sc' ar' := by
  have e1 := hs.in d1
  have e2 := ha.in d2
  unfold GT at h ⊢
  unfold LtOK at h ⊢
  rw [e1 8007 (by decide), e2 82 (by decide), e2 83 (by decide), e2 84 (by decide)]
  exact h
theorem RwT.mv {nw nb : Int} {W B : Int → Int → Int} {sc sc' : Nat → Int} {ar ar' : Nat → Int → Int} (h1 : sc' 6308 = sc 6308) (e : ∀ k ∈ [65, 66, 67, 68, 69], ar' k = ar k) (h : RwT nw nb W B sc ar) : RwT nw nb W B sc' ar' := by
  unfold RwT at h ⊢
  rw [h1, e 65 (by decide), e 66 (by decide), e 67 (by decide), e 68 (by decide), e 69 (by decide)]
  exact h
theorem RwK.mv {nw nb : Int} {W B : Int → Int → Int} {r e : Int → Int} {n : Nat} {f : Int → Int} {sc sc' : Nat → Int} {ar ar' : Nat → Int → Int} (e1 : ∀ k ∈ [6306, 6308, 6309], sc' k = sc k) (e2 : ∀ k ∈ [65, 66, 67, 68, 69], ar' k = ar k) (h : RwK nw nb W B r e n f sc ar) : RwK nw nb W B r e n f sc' ar' := by
  obtain ⟨h1, h2, h3, h4⟩ := h
  exact ⟨(e1 6306 (by decide)).trans h1, h2.mv (e1 6308 (by decide)) e2, (e1 6309 (by decide)).trans h3, h4⟩
theorem RwS.mv {nw nb : Int} {W B : Int → Int → Int} {r e : Int → Int} {n oc : Nat} {tl : List PO} {sc sc' : Nat → Int} {ar ar' : Nat → Int → Int} (e1 : ∀ k ∈ [6306, 6308, 6309], sc' k = sc k) (e2 : ∀ k ∈ [65, 66, 67, 68, 69], ar' k = ar k) (h : RwS nw nb W B r e n oc tl sc ar) : RwS nw nb W B r e n oc tl sc' ar' := by
  rcases h with ⟨h1, j, f, h2, h3, h4, h5⟩ | ⟨h1, h2⟩
  · exact Or.inl ⟨(e1 6306 (by decide)).trans h1, j, f, h2, h3, h4, h5.mv e1 e2⟩
  · exact Or.inr ⟨(e1 6306 (by decide)).trans h1, h2⟩
theorem RwS.oc {nw nb : Int} {W B : Int → Int → Int} {r e : Int → Int} {n oc : Nat} {tl : List PO} {sc : Nat → Int} {ar : Nat → Int → Int} (h : RwS nw nb W B r e n oc tl sc ar) : n ≤ 15625 ∧ OcS oc tl n := by
  rcases h with ⟨h1, j, f, h2, h3, h4, h5⟩ | ⟨h1, h2⟩
  · exact ⟨h5.2.2.2.1.2, Or.inr ⟨j, f, h2, h3, h4⟩⟩
  · exact h2
/-- the tail with its cell of outcomes untouched -/
theorem otl_at {tl : List PO} {j n : Nat} {f : Int → Int} (hj : j < tl.length) (h : tl = otl tl j n f) : tl[j]? = some (.inl (0, n, .inl (zA f))) := by
  rw [h]
  exact List.getElem?_set_self hj
theorem otl_mv {tl tl' : List PO} {j n : Nat} {f : Int → Int} (hj : j < tl.length) (h : tl = otl tl j n f) (e : tl'[j]? = tl[j]?) : tl' = otl tl' j n f := (set_self' (e.trans (otl_at hj h))).symm
theorem OcS.tl {oc n : Nat} {tl tl' : List PO} (h : OcS oc tl n) (hl : tl.length ≤ tl'.length) (e : ∀ k, k < tl.length → k + 118 = oc → tl'[k]? = tl[k]?) : OcS oc tl' n := by
  rcases h with h | ⟨j, f, h1, h2, h3⟩
  · exact Or.inl h
  · exact Or.inr ⟨j, f, h1, by omega, otl_mv h2 h3 (e j h2 h1.symm)⟩
theorem RwS.tl {nw nb : Int} {W B : Int → Int → Int} {r e : Int → Int} {n oc : Nat} {tl tl' : List PO} {sc : Nat → Int} {ar : Nat → Int → Int} (h : RwS nw nb W B r e n oc tl sc ar) (hl : tl.length ≤ tl'.length) (ee : ∀ k, k < tl.length → k + 118 = oc → tl'[k]? = tl[k]?) : RwS nw nb W B r e n oc tl' sc ar := by
  rcases h with ⟨h1, j, f, h2, h3, h4, h5⟩ | ⟨h1, h2, h3⟩
  · exact Or.inl ⟨h1, j, f, h2, by omega, otl_mv h3 h4 (ee j h3 h2.symm), h5⟩
  · exact Or.inr ⟨h1, h2, h3.tl hl ee⟩
def GC (nw nb : Int) (W B : Int → Int → Int) (Z : SS) (r e : Int → Int) (sc : Nat → Int) : Prop := ((0 ≤ sc 7205 ∧ sc 7205 ≤ 1) ∧ (sc 7205 = 1 → sc 6306 = 1 ∧ ∀ i, 0 ≤ i → i < t3 (mny nw nb W B) → r i = rsf nw nb W B (zL Z) i)) ∧ ((0 ≤ sc 7206 ∧ sc 7206 ≤ 1) ∧ (sc 7206 = 1 → sc 6306 = 1 ∧ sc 7209 = (lw3 (msv nw nb W B (zL Z))).1 ∧ sc 7210 = (lw3 (msv nw nb W B (zL Z))).2)) ∧ ((0 ≤ sc 7207 ∧ sc 7207 ≤ 1) ∧ (sc 7207 = 1 → sc 6306 = 1 ∧ sc 7208 = bbn (rsv nw nb W B) (pyv nw nb W B (zL Z)) (rsv nw nb W B (amx (rsv nw nb W B) (t3 (mny nw nb W B)).toNat)) (t3 (mny nw nb W B)).toNat)) ∧ ((0 ≤ sc 7703 ∧ sc 7703 ≤ 1) ∧ (sc 7703 = 1 → sc 6306 = 1 ∧ sc 7702 = knv nw nb W B Z ∧ ∀ i, 0 ≤ i → i < t3 (mny nw nb W B) → e i = sof nw nb W B Z i))
theorem GC.mv {nw nb : Int} {W B : Int → Int → Int} {Z : SS} {r e : Int → Int} {sc sc' : Nat → Int} {L : List Nat} (hs : Same L sc sc') (d1 : [6306, 7205, 7206, 7207, 7208, 7209, 7210, 7702, 7703].all (fun k => !(L.elem k)) = true) (h : GC nw nb W B Z r e sc) : GC nw nb W B Z r e sc' := by
  have e1 := hs.in d1
  unfold GC at h ⊢
  rw [e1 6306 (by decide), e1 7205 (by decide), e1 7206 (by decide), e1 7207 (by decide), e1 7208 (by decide), e1 7209 (by decide), e1 7210 (by decide), e1 7702 (by decide), e1 7703 (by decide)]
  exact h
/-- room: cells and slots that were made -/
def oC (n : Nat) : Nat := if n < 25 then 0 else if n < 625 then 1 else if n < 15625 then 2 else 3
def oB (n : Nat) : Nat := if n < 25 then 0 else if n < 625 then 25 else if n < 15625 then 650 else 16275
def QR (c0 s0 i n k : Nat) (q : Nat × Nat) : Prop := q.1 ≤ c0 + oC n + 3 * k + i ∧ q.2 ≤ s0 + oB n + 228 * k + 6 * i
theorem QR.up {c0 s0 i n k : Nat} {q : Nat × Nat} (h : QR c0 s0 i n k q) : QR c0 s0 (i + 1) n k q := ⟨by have := h.1; omega, by have := h.2; omega⟩
theorem QR.rn {c0 s0 i n n' k : Nat} {nb : Int} {q q' : Nat × Nat} (h : QR c0 s0 i n k q) (hb : 0 < nb ∧ nb ≤ 3) (hr : RQn nb n n' q q') : QR c0 s0 i n' k q' := by
  obtain ⟨h1, h2⟩ := h
  rcases hr with ⟨rfl, rfl⟩ | ⟨r1, r2, rfl⟩
  · exact ⟨h1, h2⟩
  · have hd : nd nb = 25 ∨ nd nb = 625 ∨ nd nb = 15625 := by
      unfold nd
      rcases (show nb = 1 ∨ nb = 2 ∨ nb = 3 by omega) with rfl | rfl | rfl
      · exact Or.inl rfl
      · exact Or.inr (Or.inl rfl)
      · exact Or.inr (Or.inr rfl)
    rw [r2]
    unfold QR
    show q.1 + 1 ≤ c0 + oC (nd nb) + 3 * k + i ∧ q.2 + nd nb ≤ s0 + oB (nd nb) + 228 * k + 6 * i
    rcases hd with hd | hd | hd <;> rw [hd] at r1 ⊢
    · rw [show oC n = 0 from if_pos r1] at h1
      rw [show oB n = 0 from if_pos r1] at h2
      show q.1 + 1 ≤ c0 + 1 + 3 * k + i ∧ q.2 + 25 ≤ s0 + 25 + 228 * k + 6 * i
      omega
    · have a1 : oC n ≤ 1 := by unfold oC; (repeat' split) <;> omega
      have a2 : oB n ≤ 25 := by unfold oB; (repeat' split) <;> omega
      show q.1 + 1 ≤ c0 + 2 + 3 * k + i ∧ q.2 + 625 ≤ s0 + 650 + 228 * k + 6 * i
      omega
    · have a1 : oC n ≤ 2 := by unfold oC; (repeat' split) <;> omega
      have a2 : oB n ≤ 650 := by unfold oB; (repeat' split) <;> omega
      show q.1 + 1 ≤ c0 + 3 + 3 * k + i ∧ q.2 + 15625 ≤ s0 + 16275 + 228 * k + 6 * i
      omega
/-- a season that can be -/
def GZ (nw nb : Int) (rs : List (List Int)) (N : Int) (Z : SS) : Prop := SeOK nb Z ∧ AsOK nw Z ∧ (∀ b, 0 ≤ b → b < nb → -1 ≤ zR Z b ∧ zR Z b < (rs.length : Int)) ∧ dN (zD Z) ≤ N
def INx (i : Nat) (tp : List Int) (nw nb : Int) (W B : Int → Int → Int) (Z Zk : SS) (rs : List (List Int)) (J : Nat → Nat) (r e : Int → Int) (n : Nat) (sc : Nat → Int) (ar : Nat → Int → Int) (oc : Nat) (rl : Nat → Option Nat) (tl : List PO) (q : Nat × Nat) : Prop := TpOK tp ∧ FrOK nw nb W B ∧ G1 tp sc ar ∧ G2 tp sc ar ∧ GF nw nb W B sc ar ∧ GX Z sc ar ∧ GM nb Z sc ar ∧ GZ nw nb rs (40 * (i : Int)) Z ∧ GZ nw nb rs (40 * (i : Int)) Zk ∧ GI nb Zk sc ar ∧ GC nw nb W B Z r e sc ∧ RwS nw nb W B r e n oc tl sc ar ∧ GT rs sc ar ∧ RuX rs J (sc 5) rl oc tl ∧ QR 118 200000 i n rs.length q
def INV (i : Nat) (g : PG) : Prop := ∃ sc ar tx oc rl ou tl q tp nw nb W B Z Zk rs J r e n, g = (HW sc ar tx oc rl ou tl, q) ∧ INx i tp nw nb W B Z Zk rs J r e n sc ar oc rl tl q
theorem GZ.up {nw nb : Int} {rs : List (List Int)} {i : Nat} {Z : SS} (h : GZ nw nb rs (40 * (i : Int)) Z) : GZ nw nb rs (40 * ((i + 1 : Nat) : Int)) Z := ⟨h.1, h.2.1, h.2.2.1, by have := h.2.2.2; omega⟩
theorem RuX.mv {rs : List (List Int)} {J : Nat → Nat} {a b : Int} {rl : Nat → Option Nat} {oc : Nat} {tl : List PO} (h : RuX rs J a rl oc tl) (e : b = a) : RuX rs J b rl oc tl := by rw [e]; exact h
/-- what a call that leaves no more than scratch keeps -/
theorem INx.sm {i : Nat} {tp : List Int} {nw nb : Int} {W B : Int → Int → Int} {Z Zk : SS} {rs : List (List Int)} {J : Nat → Nat} {r e : Int → Int} {n : Nat} {sc sc' : Nat → Int} {ar ar' : Nat → Int → Int} {oc : Nat} {rl : Nat → Option Nat} {tl : List PO} {q : Nat × Nat} (hs : Same scF sc sc') (ha : Same scA ar ar') (h : INx i tp nw nb W B Z Zk rs J r e n sc ar oc rl tl q) : INx i tp nw nb W B Z Zk rs J r e n sc' ar' oc rl tl q := by
  obtain ⟨h1, h2, h3, h4, h5, h6, h7, h8, h9, h10, h11, h12, h13, h14, h15⟩ := h
  exact ⟨h1, h2, h3.mv hs ha rfl rfl, h4.mv hs ha rfl rfl, h5.mv hs ha rfl rfl, h6.mv hs ha rfl rfl, h7.mv hs ha rfl rfl, h8, h9, h10.mv hs ha rfl rfl, h11.mv hs rfl, h12.mv (hs.in rfl) (ha.in rfl), h13.mv hs ha rfl rfl, h14.mv (hs 5 rfl), h15⟩
theorem INx.up {i : Nat} {tp : List Int} {nw nb : Int} {W B : Int → Int → Int} {Z Zk : SS} {rs : List (List Int)} {J : Nat → Nat} {r e : Int → Int} {n : Nat} {sc : Nat → Int} {ar : Nat → Int → Int} {oc : Nat} {rl : Nat → Option Nat} {tl : List PO} {q : Nat × Nat} (h : INx i tp nw nb W B Z Zk rs J r e n sc ar oc rl tl q) : INx (i + 1) tp nw nb W B Z Zk rs J r e n sc ar oc rl tl q := by
  obtain ⟨h1, h2, h3, h4, h5, h6, h7, h8, h9, h10, h11, h12, h13, h14, h15⟩ := h
  exact ⟨h1, h2, h3, h4, h5, h6, h7, h8.up, h9.up, h10, h11, h12, h13, h14, h15.up⟩
/-- both sides answer alike -/
def Both (K : PK) (kx km : Nat) (as : List Value) (i : Nat) (g : PG) : Prop := ∃ v g1 g2, CallR K 60 kx (.ref 0 :: as) g (some (.int (iI v))) g1 ∧ CallR K 60 km (.ref 80 :: as) g1 (some (.int (iI v))) g2 ∧ (∃ fs, g1.1[80]? = some (.inr (11, fs))) ∧ INV (i + 1) g2
def QS9 (v : Int) (sc : Nat → Int) (ar : Nat → Int → Int) (tx oc : Nat) (rl : Nat → Option Nat) (ou : Nat → Int64) (tl : List PO) (q : Nat × Nat) : Option Value → PG → Prop := fun r g' => r = some (.int (iI v)) ∧ ∃ sc' ar', g' = (HW sc' ar' tx oc rl ou tl, q) ∧ Same scF sc sc' ∧ Same scA ar ar'
def QT9 (v : Int) (sc : Nat → Int) (ar : Nat → Int → Int) (oc : Nat) (rl : Nat → Option Nat) (ou : Nat → Int64) (tl : List PO) (q : Nat × Nat) : Option Value → PG → Prop := fun r g' => r = some (.int (iI v)) ∧ ∃ sc' ar' tx', g' = (HW sc' ar' tx' oc rl ou tl, q) ∧ Same scF sc sc' ∧ Same scA ar ar'
theorem CQ.t {K : PK} {d k : Nat} {as : List Value} {v : Int} {sc : Nat → Int} {ar : Nat → Int → Int} {tx oc : Nat} {rl : Nat → Option Nat} {ou : Nat → Int64} {tl : List PO} {q : Nat × Nat} (h : CQ K d k as (HW sc ar tx oc rl ou tl, q) (QS9 v sc ar tx oc rl ou tl q)) : CQ K d k as (HW sc ar tx oc rl ou tl, q) (QT9 v sc ar oc rl ou tl q) := by
  obtain ⟨r, g', h1, h2, sc', ar', h3⟩ := h
  exact ⟨r, g', h1, h2, sc', ar', tx, h3⟩
theorem CQ.s0 {K : PK} {d k : Nat} {as : List Value} {v : Int} {sc : Nat → Int} {ar : Nat → Int → Int} {tx oc : Nat} {rl : Nat → Option Nat} {ou : Nat → Int64} {tl : List PO} {q : Nat × Nat} (h : CallR K d k as (HW sc ar tx oc rl ou tl, q) (some (.int (iI v))) (HW sc ar tx oc rl ou tl, q)) : CQ K d k as (HW sc ar tx oc rl ou tl, q) (QS9 v sc ar tx oc rl ou tl q) := ⟨_, _, h, rfl, sc, ar, rfl, Same.rf, Same.rf⟩
theorem CQ.s8 {K : PK} {d k : Nat} {as : List Value} {v x : Int} {sc : Nat → Int} {ar : Nat → Int → Int} {tx oc : Nat} {rl : Nat → Option Nat} {ou : Nat → Int64} {tl : List PO} {q : Nat × Nat} (h : CallR K d k as (HW sc ar tx oc rl ou tl, q) (some (.int (iI v))) (HW (usc sc 8000 x) ar tx oc rl ou tl, q)) : CQ K d k as (HW sc ar tx oc rl ou tl, q) (QS9 v sc ar tx oc rl ou tl q) := ⟨_, _, h, rfl, _, ar, rfl, Same.us rfl Same.rf, Same.rf⟩
/-- a call of each side that leaves scratch alone -/
theorem both_s {K : PK} {kx km : Nat} {as : List Value} {v : Int} {i : Nat} {tp : List Int} {nw nb : Int} {W B : Int → Int → Int} {Z Zk : SS} {rs : List (List Int)} {J : Nat → Nat} {r e : Int → Int} {n : Nat} {sc : Nat → Int} {ar : Nat → Int → Int} {tx oc : Nat} {rl : Nat → Option Nat} {ou : Nat → Int64} {tl : List PO} {q : Nat × Nat} (h : INx i tp nw nb W B Z Zk rs J r e n sc ar oc rl tl q) (hx : CQ K 60 kx (.ref 0 :: as) (HW sc ar tx oc rl ou tl, q) (QS9 v sc ar tx oc rl ou tl q)) (hm : ∀ sc' ar', INx i tp nw nb W B Z Zk rs J r e n sc' ar' oc rl tl q → CQ K 60 km (.ref 80 :: as) (HW sc' ar' tx oc rl ou tl, q) (QT9 v sc' ar' oc rl ou tl q)) : Both K kx km as i (HW sc ar tx oc rl ou tl, q) := by
  obtain ⟨_, _, c1, rfl, sc1, ar1, rfl, hs1, ha1⟩ := hx
  have h1 := h.sm hs1 ha1
  obtain ⟨_, _, c2, rfl, sc2, ar2, tx2, rfl, hs2, ha2⟩ := hm sc1 ar1 h1
  exact ⟨v, _, _, c1, c2, ⟨_, rfl⟩, sc2, ar2, tx2, oc, rl, ou, tl, q, tp, nw, nb, W, B, Z, Zk, rs, J, r, e, n, rfl, (h1.sm hs2 ha2).up⟩
