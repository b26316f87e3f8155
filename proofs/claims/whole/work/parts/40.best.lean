/-! best and alone of both sides, by wip/tools -/
/-- the first that is greatest -/
def bup (g : Int → Int) (s : Option (Int × Int)) (p : Int) : Option (Int × Int) := match s with
  | none => some (p, g p)
  | some (b, v) => if v < g p then some (p, g p) else some (b, v)
def bst (g : Int → Int) (l : List Int) : Option (Int × Int) := l.foldl (bup g) none
theorem bst_app (g : Int → Int) (l : List Int) (p : Int) : bst g (l ++ [p]) = bup g (bst g l) p := by
  unfold bst
  rw [List.foldl_append]
  rfl
theorem bst_take (g : Int → Int) (l : List Int) (k : Nat) (h : k < l.length) : bst g (l.take (k + 1)) = bup g (bst g (l.take k)) (lat l k) := by
  rw [List.take_succ, List.getElem?_eq_getElem h]
  show bst g (l.take k ++ [l[k]]) = _
  rw [bst_app, lat_q, Int.toNat_natCast, List.getElem?_eq_getElem h]
  rfl
theorem bup_some (g : Int → Int) (s : Option (Int × Int)) (p : Int) : ∃ b v, bup g s p = some (b, v) := by
  unfold bup
  split
  · exact ⟨_, _, rfl⟩
  · split <;> exact ⟨_, _, rfl⟩
theorem bst_pls (g : Int → Int) (nw : Int) (W B : Int → Int → Int) (b : Int) : ∃ p v, bst g (pls nw W B b) = some (p, v) := by
  rw [pls_eq, bst_app]
  exact bup_some ..
def bsg (nw nb : Int) (W B : Int → Int → Int) (law P : Int → Int) (b : Int) : Int → Int := fun p => gnr nw nb W B law (usz P b p) b
def alg (nb : Int) (W B : Int → Int → Int) (b : Int) : Int → Int := fun p => sS (svn nb W B (usz (fun _ => 99) b p)) b
def sBest (nw nb : Int) (W B : Int → Int → Int) (law : Int → Int) (row b j : Int) : Int := if (0 ≤ b ∧ b < nb) ∧ (0 ≤ j ∧ j ≤ 1) ∧ rok nw nb W B row then (match bst (bsg nw nb W B law (prow nb row) b) (pls nw W B b) with
  | some (p, v) => if j = 0 then p else v
  | none => 0) else -1000000
def sAlone (nw nb : Int) (W B : Int → Int → Int) (b j : Int) : Int := if (0 ≤ b ∧ b < nb) ∧ (0 ≤ j ∧ j ≤ 1) then (match bst (alg nb W B b) (fl (mb nw W B b) 99) with
  | some (p, v) => if j = 0 then v else p
  | none => if j = 0 then 0 else 99) else -1
theorem pt_us {nw nb : Int} {W B : Int → Int → Int} {P : Int → Int} {b p : Int} (h : ∀ c, 0 ≤ c → c < nb → c ≠ b → may nw W B c (P c)) (hm : may nw W B b p) : PtOK nw nb W B (usz P b p) := by
  intro c h0 h1
  by_cases e : c = b
  · subst e; rw [usz_s]; exact hm
  · rw [usz_n e]; exact h c h0 h1 e
theorem alone_T {nw nb : Int} {W B : Int → Int → Int} (hF : FrOK nw nb W B) {b p : Int} (hb : 0 ≤ b ∧ b < nb) (hm : may nw W B b p) : sT (svn nb W B (usz (fun _ => 99) b p)) = alg nb W B b p := by
  have h00 := hF.1
  have hmy : PtOK nw nb W B (usz (fun _ => 99) b p) := pt_us (fun c _ _ _ => Or.inl rfl) hm
  have hJ := svn_j hF hmy
  have e : sm3 nb (sS (svn nb W B (usz (fun _ => 99) b p))) = sm3 nb (usz (fun _ => 0) b (sS (svn nb W B (usz (fun _ => 99) b p)) b)) := by
    apply sm3_c
    intro c h0 h1
    by_cases e : c = b
    · subst e; rw [usz_s]
    · rw [usz_n (f := fun _ => 0) e]
      exact hJ.2.1 c h0 h1 (bkn_99 (usz_n e) _)
  rw [hJ.2.2.1, e, sm3_up hb (by omega), sm3_0 (fun _ _ _ => rfl)]
  show 0 - 0 + _ = alg nb W B b p
  unfold alg
  omega
/-- how the loops hold the best so far -/
def BX (l1 : Int) (s : Option (Int × Int)) (p v a : Int) : Prop := (s = none ∧ p = 99 ∧ v = l1 ∧ a = 0) ∨ (s = some (p, v) ∧ a = 1)
def BM (n0 v0 : Int) (s : Option (Int × Int)) (p v : Int) : Prop := (s = none ∧ p = n0 ∧ v = v0) ∨ (s = some (p, v) ∧ p ≠ n0)
theorem HW_e {sc sc' : Nat → Int} {ar ar' : Nat → Int → Int} {tx oc : Nat} {rl : Nat → Option Nat} {ou : Nat → Int64} {tl : List PO} {q : Nat × Nat} (h1 : sc = sc') (h2 : ar = ar') : (HW sc ar tx oc rl ou tl, q) = (HW sc' ar' tx oc rl ou tl, q) := by subst h1 h2; rfl
theorem x_bs_l {K : PK} {d : Nat} {tx oc : Nat} {rl : Nat → Option Nat} {ou : Nat → Int64} {tl : List PO} {q : Nat × Nat} {Q : Option Value → PG → Prop} {nw nb : Int} {W B : Int → Int → Int} (hF : FrOK nw nb W B) {law P : Int → Int} (hL : LwOK law) {row b j : Int} (hb : 0 ≤ b ∧ b < nb) (hj : 0 ≤ j ∧ j ≤ 1) (hmo : ∀ c, 0 ≤ c → c < nb → c ≠ b → may nw W B c (P c)) : ∀ (m n : Nat) (sc : Nat → Int) (ar : Nat → Int → Int) (p v a : Int) (e8 : Option Value) (hm : n + m = 100) (hX : FrX (sc 303) (sc 304) (ar 5) (ar 6) (ar 7) (ar 8) (ar 10) (ar 11) (ar 12) nw nb W B) (hlw : ∀ j, 0 ≤ j → j < 4 → ar 32 j = law j) (hpo : ∀ c, 0 ≤ c → c < nb → c ≠ b → ar 78 c = P c) (rp : (0 ≤ p ∧ p ≤ 99) ∧ (-1000 ≤ v ∧ v ≤ 4000)) (hi : BX (law 1) (bst (bsg nw nb W B law P b) (fl (mb nw W B b) n)) p v a) (hk : ∀ sc' ar' p v, Same scF sc sc' → Same scA ar ar' → bst (bsg nw nb W B law P b) (pls nw W B b) = some (p, v) → Q (some (.int (iI (if j = 0 then p else v)))) (HW sc' ar' tx oc rl ou tl, q)), RQ K (d + 5) 10 false (some .int) cd118 49 [some (.ref 0), some (.int (iI row)), some (.int (iI b)), some (.int (iI j)), some (.int (iI p)), some (.int (iI v)), some (.int (iI a)), some (.int (iI (n : Int))), e8] [] (HW sc ar tx oc rl ou tl, q) Q
  | 0, n, sc, ar, p, v, a, e8, hm, hX, hlw, hpo, rp, hi, hk => by
    have hn := hF.1
    have hm1 := hX.1
    have hm2 := hX.2.1
    refine RQ.seg 2 (pc' := 53) (L' := [some (.ref 0), some (.int (iI row)), some (.int (iI b)), some (.int (iI j)), some (.int (iI p)), some (.int (iI v)), some (.int (iI a)), some (.int (iI (n : Int))), e8]) (st' := [.int (iI 99), .int (iI (n : Int))]) (g1 := (HW sc ar tx oc rl ou tl, q)) rfl ?_
    refine RQ.if2 (a := (n : Int)) (b := 99) rfl rfl rfl rfl (by omega) (by omega) (fun _ => ?_) (fun (q : ¬ 99 < (n : Int)) => absurd (show 99 < (n : Int) from by omega) q)
    refine RQ.seg 1 (pc' := 125) (L' := [some (.ref 0), some (.int (iI row)), some (.int (iI b)), some (.int (iI j)), some (.int (iI p)), some (.int (iI v)), some (.int (iI a)), some (.int (iI (n : Int))), e8]) (st' := [.int (iI j)]) (g1 := (HW sc ar tx oc rl ou tl, q)) rfl ?_
    refine RQ.if1 (a := j) rfl rfl rfl (by omega) (fun (h2 : j ≠ 0) => ?_) (fun (h2 : ¬ j ≠ 0) => ?_)
    · skip
      refine RQ.seg 1 (pc' := 135) (L' := [some (.ref 0), some (.int (iI row)), some (.int (iI b)), some (.int (iI j)), some (.int (iI p)), some (.int (iI v)), some (.int (iI a)), some (.int (iI (n : Int))), e8]) (st' := [.int (iI v)]) (g1 := (HW sc ar tx oc rl ou tl, q)) rfl ?_
      refine RQ.ret rfl rfl ?_
      obtain rfl : n = 100 := by omega
      obtain ⟨p0, v0, e0⟩ := bst_pls (bsg nw nb W B law P b) nw W B b
      have e1 : bst (bsg nw nb W B law P b) (pls nw W B b) = some (p, v) := by
        rcases hi with ⟨z, _⟩ | ⟨z, _⟩
        · rw [show fl (mb nw W B b) 100 = pls nw W B b from rfl, e0] at z; cases z
        · exact z
      have e2 := hk sc ar p v Same.rf Same.rf e1
      first | (rw [if_pos (by omega)] at e2; exact e2) | (rw [if_neg (by omega)] at e2; exact e2)
    · skip
      refine RQ.seg 2 (pc' := 135) (L' := [some (.ref 0), some (.int (iI row)), some (.int (iI b)), some (.int (iI j)), some (.int (iI p)), some (.int (iI v)), some (.int (iI a)), some (.int (iI (n : Int))), e8]) (st' := [.int (iI p)]) (g1 := (HW sc ar tx oc rl ou tl, q)) rfl ?_
      refine RQ.ret rfl rfl ?_
      obtain rfl : n = 100 := by omega
      obtain ⟨p0, v0, e0⟩ := bst_pls (bsg nw nb W B law P b) nw W B b
      have e1 : bst (bsg nw nb W B law P b) (pls nw W B b) = some (p, v) := by
        rcases hi with ⟨z, _⟩ | ⟨z, _⟩
        · rw [show fl (mb nw W B b) 100 = pls nw W B b from rfl, e0] at z; cases z
        · exact z
      have e2 := hk sc ar p v Same.rf Same.rf e1
      first | (rw [if_pos (by omega)] at e2; exact e2) | (rw [if_neg (by omega)] at e2; exact e2)
  | m + 1, n, sc, ar, p, v, a, e8, hm, hX, hlw, hpo, rp, hi, hk => by
    have hn := hF.1
    have hm1 := hX.1
    have hm2 := hX.2.1
    have ra : 0 ≤ a ∧ a ≤ 1 := by rcases hi with h | h <;> omega
    refine RQ.seg 2 (pc' := 53) (L' := [some (.ref 0), some (.int (iI row)), some (.int (iI b)), some (.int (iI j)), some (.int (iI p)), some (.int (iI v)), some (.int (iI a)), some (.int (iI (n : Int))), e8]) (st' := [.int (iI 99), .int (iI (n : Int))]) (g1 := (HW sc ar tx oc rl ou tl, q)) rfl ?_
    refine RQ.if2 (a := (n : Int)) (b := 99) rfl rfl rfl rfl (by omega) (by omega) (fun (q : 99 < (n : Int)) => absurd q (show ¬ 99 < (n : Int) from by omega)) (fun _ => ?_)
    refine RQ.seg 4 (pc' := 63) (L' := [some (.ref 0), some (.int (iI row)), some (.int (iI b)), some (.int (iI j)), some (.int (iI p)), some (.int (iI v)), some (.int (iI a)), some (.int (iI (n : Int))), e8]) (st' := [.int (iI (n : Int)), .int (iI b), .ref 3]) (g1 := (HW sc ar tx oc rl ou tl, q)) rfl ?_
    rcases Decidable.em (may nw W B b (n : Int)) with hmay | hmay
    · skip
      refine RQ.call rfl rfl (CallR.up (d := 2) (x_may_t (d := 0) hF hX (by omega) (by omega) hmay) (by omega)) ?_
      refine RQ.seg 5 (pc' := 76) (L' := [some (.ref 0), some (.int (iI row)), some (.int (iI b)), some (.int (iI j)), some (.int (iI p)), some (.int (iI v)), some (.int (iI a)), some (.int (iI (n : Int))), e8]) (st' := [.int (iI (n : Int)), .int (iI b), .ref 78]) (g1 := (HW sc ar tx oc rl ou tl, q)) rfl ?_
      refine RQ.iast (z := b) (v := (n : Int)) (g1 := (HW sc (usc ar 78 (usz (ar 78) b (n : Int))) tx oc rl ou tl, q)) rfl rfl rfl rfl (by omega) (by decide) (HWa_78 rfl) ?_
      refine RQ.seg 4 (pc' := 85) (L' := [some (.ref 0), some (.int (iI row)), some (.int (iI b)), some (.int (iI j)), some (.int (iI p)), some (.int (iI v)), some (.int (iI a)), some (.int (iI (n : Int))), e8]) (st' := [.ref 78, .ref 51]) (g1 := (HW sc (usc ar 78 (usz (ar 78) b (n : Int))) tx oc rl ou tl, q)) rfl ?_
      have hmy := pt_us (p := (n : Int)) hmo hmay
      refine RQ.callQ rfl rfl ((x_run78 (d := 0) (sc := sc) (ar := usc ar 78 (usz (ar 78) b (n : Int))) (P := usz P b (n : Int)) hF hX (fun c h0 h1 => usz_c (fun e => hpo c h0 h1 e) rfl) hmy).up (by omega)) (fun rv g1 hc => ?_)
      obtain ⟨rfl, sc1, ar1, rfl, hp, hs1, ha1⟩ := hc
      have hs2 : Same scF sc sc1 := hs1.w rfl
      have ha2 : Same scA ar ar1 := Same.tr (Same.us rfl Same.rf) (ha1.w rfl)
      have hX1 := hX.sm hs2 ha2
      have hlw1 : ∀ j, 0 ≤ j → j < 4 → ar1 32 j = law j := fun j h0 h1 => (congrFun (ha2 32 rfl) j).trans (hlw j h0 h1)
      have hpo1 : ∀ c, 0 ≤ c → c < nb → c ≠ b → ar1 78 c = P c := fun c h0 h1 h2 => (congrFun (ha1 78 rfl) c).trans ((usz_n h2).trans (hpo c h0 h1 h2))
      have hgr := gnr_r hF hmy hL hb
      refine RQ.seg 2 (pc' := 90) (L' := [some (.ref 0), some (.int (iI row)), some (.int (iI b)), some (.int (iI j)), some (.int (iI p)), some (.int (iI v)), some (.int (iI a)), some (.int (iI (n : Int))), e8]) (st' := [.int (iI b), .ref 0]) (g1 := (HW sc1 ar1 tx oc rl ou tl, q)) rfl ?_
      refine RQ.call rfl rfl (CallR.up (d := 5) (x_gainOf (d := 0) hF hX1 hmy hp hlw1 hL (b := b) (by omega)) (by omega)) ?_
      refine RQ.seg 2 (pc' := 97) (L' := [some (.ref 0), some (.int (iI row)), some (.int (iI b)), some (.int (iI j)), some (.int (iI p)), some (.int (iI v)), some (.int (iI a)), some (.int (iI (n : Int))), some (.int (iI (gnr nw nb W B law (usz P b (n : Int)) b)))]) (st' := [.int (iI a)]) (g1 := (HW sc1 ar1 tx oc rl ou tl, q)) rfl ?_
      refine RQ.if1 (a := a) rfl rfl rfl (by omega) (fun (h2 : a = 0) => ?_) (fun (h2 : ¬ a = 0) => ?_)
      · skip
        refine RQ.seg 8 (pc' := 49) (L' := [some (.ref 0), some (.int (iI row)), some (.int (iI b)), some (.int (iI j)), some (.int (iI (n : Int))), some (.int (iI (gnr nw nb W B law (usz P b (n : Int)) b))), some (.int (iI 1)), some (.int ((iI (n : Int)) + (iI 1))), some (.int (iI (gnr nw nb W B law (usz P b (n : Int)) b)))]) (st' := []) (g1 := (HW sc1 ar1 tx oc rl ou tl, q)) rfl ?_
        refine RQ.to (L' := [some (.ref 0), some (.int (iI row)), some (.int (iI b)), some (.int (iI j)), some (.int (iI (n : Int))), some (.int (iI (gnr nw nb W B law (usz P b (n : Int)) b))), some (.int (iI 1)), some (.int (iI ((n : Int) + 1))), some (.int (iI (gnr nw nb W B law (usz P b (n : Int)) b)))]) (st' := []) (by simp only [iI_add, iI_sub, iI_mul, iI_neg]) rfl ?_
        refine x_bs_l hF hL hb hj hmo m (n + 1) sc1 ar1 (n : Int) (gnr nw nb W B law (usz P b (n : Int)) b) 1 _ (by omega) hX1 hlw1 hpo1 (by omega) ?_ (fun sc' ar' p' v' h1 h2 h3 => hk sc' ar' p' v' (hs2.tr h1) (ha2.tr h2) h3)
        rw [fl_t (mb_t.mpr hmay), bst_app]
        rcases hi with ⟨e1, e2, e3, e4⟩ | ⟨e1, e2⟩ <;> rw [e1]
        · first | (exfalso; omega) | exact Or.inr ⟨rfl, rfl⟩
        · first | (exfalso; omega) | (refine Or.inr ⟨?_, by omega⟩; show (if v < bsg nw nb W B law P b (n : Int) then _ else _) = _; unfold bsg; first | rw [if_pos (by omega)] | rw [if_neg (by omega)])
      · skip
        refine RQ.seg 2 (pc' := 104) (L' := [some (.ref 0), some (.int (iI row)), some (.int (iI b)), some (.int (iI j)), some (.int (iI p)), some (.int (iI v)), some (.int (iI a)), some (.int (iI (n : Int))), some (.int (iI (gnr nw nb W B law (usz P b (n : Int)) b)))]) (st' := [.int (iI v), .int (iI (gnr nw nb W B law (usz P b (n : Int)) b))]) (g1 := (HW sc1 ar1 tx oc rl ou tl, q)) rfl ?_
        refine RQ.if2 (a := (gnr nw nb W B law (usz P b (n : Int)) b)) (b := v) rfl rfl rfl rfl (by omega) (by omega) (fun (h3 : gnr nw nb W B law (usz P b (n : Int)) b ≤ v) => ?_) (fun (h3 : ¬ gnr nw nb W B law (usz P b (n : Int)) b ≤ v) => ?_)
        · skip
          refine RQ.seg 2 (pc' := 49) (L' := [some (.ref 0), some (.int (iI row)), some (.int (iI b)), some (.int (iI j)), some (.int (iI p)), some (.int (iI v)), some (.int (iI a)), some (.int ((iI (n : Int)) + (iI 1))), some (.int (iI (gnr nw nb W B law (usz P b (n : Int)) b)))]) (st' := []) (g1 := (HW sc1 ar1 tx oc rl ou tl, q)) rfl ?_
          refine RQ.to (L' := [some (.ref 0), some (.int (iI row)), some (.int (iI b)), some (.int (iI j)), some (.int (iI p)), some (.int (iI v)), some (.int (iI a)), some (.int (iI ((n : Int) + 1))), some (.int (iI (gnr nw nb W B law (usz P b (n : Int)) b)))]) (st' := []) (by simp only [iI_add, iI_sub, iI_mul, iI_neg]) rfl ?_
          refine x_bs_l hF hL hb hj hmo m (n + 1) sc1 ar1 p v a _ (by omega) hX1 hlw1 hpo1 (by omega) ?_ (fun sc' ar' p' v' h1 h2 h3 => hk sc' ar' p' v' (hs2.tr h1) (ha2.tr h2) h3)
          rw [fl_t (mb_t.mpr hmay), bst_app]
          rcases hi with ⟨e1, e2, e3, e4⟩ | ⟨e1, e2⟩ <;> rw [e1]
          · first | (exfalso; omega) | exact Or.inr ⟨rfl, rfl⟩
          · first | (exfalso; omega) | (refine Or.inr ⟨?_, by omega⟩; show (if v < bsg nw nb W B law P b (n : Int) then _ else _) = _; unfold bsg; first | rw [if_pos (by omega)] | rw [if_neg (by omega)])
        · skip
          refine RQ.seg 8 (pc' := 49) (L' := [some (.ref 0), some (.int (iI row)), some (.int (iI b)), some (.int (iI j)), some (.int (iI (n : Int))), some (.int (iI (gnr nw nb W B law (usz P b (n : Int)) b))), some (.int (iI 1)), some (.int ((iI (n : Int)) + (iI 1))), some (.int (iI (gnr nw nb W B law (usz P b (n : Int)) b)))]) (st' := []) (g1 := (HW sc1 ar1 tx oc rl ou tl, q)) rfl ?_
          refine RQ.to (L' := [some (.ref 0), some (.int (iI row)), some (.int (iI b)), some (.int (iI j)), some (.int (iI (n : Int))), some (.int (iI (gnr nw nb W B law (usz P b (n : Int)) b))), some (.int (iI 1)), some (.int (iI ((n : Int) + 1))), some (.int (iI (gnr nw nb W B law (usz P b (n : Int)) b)))]) (st' := []) (by simp only [iI_add, iI_sub, iI_mul, iI_neg]) rfl ?_
          refine x_bs_l hF hL hb hj hmo m (n + 1) sc1 ar1 (n : Int) (gnr nw nb W B law (usz P b (n : Int)) b) 1 _ (by omega) hX1 hlw1 hpo1 (by omega) ?_ (fun sc' ar' p' v' h1 h2 h3 => hk sc' ar' p' v' (hs2.tr h1) (ha2.tr h2) h3)
          rw [fl_t (mb_t.mpr hmay), bst_app]
          rcases hi with ⟨e1, e2, e3, e4⟩ | ⟨e1, e2⟩ <;> rw [e1]
          · first | (exfalso; omega) | exact Or.inr ⟨rfl, rfl⟩
          · first | (exfalso; omega) | (refine Or.inr ⟨?_, by omega⟩; show (if v < bsg nw nb W B law P b (n : Int) then _ else _) = _; unfold bsg; first | rw [if_pos (by omega)] | rw [if_neg (by omega)])
    · skip
      refine RQ.call rfl rfl (CallR.up (d := 2) (x_may_f (d := 0) hF hX (by omega) (by omega) hmay) (by omega)) ?_
      refine RQ.seg 3 (pc' := 49) (L' := [some (.ref 0), some (.int (iI row)), some (.int (iI b)), some (.int (iI j)), some (.int (iI p)), some (.int (iI v)), some (.int (iI a)), some (.int ((iI (n : Int)) + (iI 1))), e8]) (st' := []) (g1 := (HW sc ar tx oc rl ou tl, q)) rfl ?_
      refine RQ.to (L' := [some (.ref 0), some (.int (iI row)), some (.int (iI b)), some (.int (iI j)), some (.int (iI p)), some (.int (iI v)), some (.int (iI a)), some (.int (iI ((n : Int) + 1))), e8]) (st' := []) (by simp only [iI_add, iI_sub, iI_mul, iI_neg]) rfl ?_
      exact x_bs_l hF hL hb hj hmo m (n + 1) sc ar p v a _ (by omega) hX hlw hpo rp (by rw [fl_f (mb_f.mpr hmay)]; exact hi) hk
theorem x_best {K : PK} {d : Nat} {sc : Nat → Int} {ar : Nat → Int → Int} {tx oc : Nat} {rl : Nat → Option Nat} {ou : Nat → Int64} {tl : List PO} {q : Nat × Nat} {row b j : Int} {nw nb : Int} {W B : Int → Int → Int} (hF : FrOK nw nb W B) (hX : FrX (sc 303) (sc 304) (ar 5) (ar 6) (ar 7) (ar 8) (ar 10) (ar 11) (ar 12) nw nb W B) {law : Int → Int} (hlw : ∀ j, 0 ≤ j → j < 4 → ar 32 j = law j) (hL : LwOK law) (rrow : -2147483648 ≤ row ∧ row < 2147483648) (rb : -2147483648 ≤ b ∧ b < 2147483648) (rj : -2147483648 ≤ j ∧ j < 2147483648) : CQ K (d + 6) 118 [.ref 0, .int (iI row), .int (iI b), .int (iI j)] (HW sc ar tx oc rl ou tl, q) (fun r g' => r = some (.int (iI (sBest nw nb W B law row b j))) ∧ ∃ sc' ar', g' = (HW sc' ar' tx oc rl ou tl, q) ∧ Same scF sc sc' ∧ Same scA ar ar') := by
  have hn := hF.1
  have hm1 := hX.1
  have hm2 := hX.2.1
  have hLL := hL
  unfold LwOK at hLL
  refine CQ.of (own := 10) (n := 9) (ini := false) (rt := (some .int)) (cd := cd118) (by decide +kernel) rfl (by decide +kernel) rfl (Nat.le_of_ble_eq_true rfl) ?_
  refine RQ.seg 2 (pc' := 2) (L' := [some (.ref 0), some (.int (iI row)), some (.int (iI b)), some (.int (iI j)), none, none, none, none, none]) (st' := [.int (iI b), .ref 0]) (g1 := (HW sc ar tx oc rl ou tl, q)) rfl ?_
  rcases Decidable.em (0 ≤ b ∧ b < nb) with h1 | h1
  · skip
    refine RQ.call rfl rfl (x_isBrN_t (by omega) hX hF h1) ?_
    refine RQ.seg 2 (pc' := 9) (L' := [some (.ref 0), some (.int (iI row)), some (.int (iI b)), some (.int (iI j)), none, none, none, none, none]) (st' := [.int (iI j)]) (g1 := (HW sc ar tx oc rl ou tl, q)) rfl ?_
    refine RQ.if1 (a := j) rfl rfl rfl (by omega) (fun (h2 : j < 0) => ?_) (fun (h2 : ¬ j < 0) => ?_)
    · skip
      refine RQ.seg 1 (pc' := 27) (L' := [some (.ref 0), some (.int (iI row)), some (.int (iI b)), some (.int (iI j)), none, none, none, none, none]) (st' := [.int (iI (-1000000))]) (g1 := (HW sc ar tx oc rl ou tl, q)) rfl ?_
      refine RQ.ret rfl rfl ?_
      refine ⟨?_, _, _, rfl, (by repeat (first | exact Same.rf | refine Same.us rfl ?_)), (by repeat (first | exact Same.rf | refine Same.us rfl ?_))⟩
      first | (exfalso; omega) | (congr 3; unfold sBest; first | (rw [if_neg (fun z => by first | omega | exact hrk z.2.2)]; done) | (rw [if_pos (by first | exact ⟨by omega, by omega, hrk⟩ | exact ⟨by omega, hrk⟩ | omega)]; (repeat (first | rw [if_pos (by omega)] | rw [if_neg (by omega)])); done))
    · skip
      refine RQ.seg 2 (pc' := 14) (L' := [some (.ref 0), some (.int (iI row)), some (.int (iI b)), some (.int (iI j)), none, none, none, none, none]) (st' := [.int (iI 1), .int (iI j)]) (g1 := (HW sc ar tx oc rl ou tl, q)) rfl ?_
      refine RQ.if2 (a := j) (b := 1) rfl rfl rfl rfl (by omega) (by omega) (fun (h3 : 1 < j) => ?_) (fun (h3 : ¬ 1 < j) => ?_)
      · skip
        refine RQ.seg 1 (pc' := 27) (L' := [some (.ref 0), some (.int (iI row)), some (.int (iI b)), some (.int (iI j)), none, none, none, none, none]) (st' := [.int (iI (-1000000))]) (g1 := (HW sc ar tx oc rl ou tl, q)) rfl ?_
        refine RQ.ret rfl rfl ?_
        refine ⟨?_, _, _, rfl, (by repeat (first | exact Same.rf | refine Same.us rfl ?_)), (by repeat (first | exact Same.rf | refine Same.us rfl ?_))⟩
        first | (exfalso; omega) | (congr 3; unfold sBest; first | (rw [if_neg (fun z => by first | omega | exact hrk z.2.2)]; done) | (rw [if_pos (by first | exact ⟨by omega, by omega, hrk⟩ | exact ⟨by omega, hrk⟩ | omega)]; (repeat (first | rw [if_pos (by omega)] | rw [if_neg (by omega)])); done))
      · skip
        refine RQ.seg 2 (pc' := 19) (L' := [some (.ref 0), some (.int (iI row)), some (.int (iI b)), some (.int (iI j)), none, none, none, none, none]) (st' := [.int (iI row), .ref 0]) (g1 := (HW sc ar tx oc rl ou tl, q)) rfl ?_
        refine RQ.callQ rfl rfl ((x_splitRow (d := 0) (sc := sc) (ar := ar) hF hX (row := row) (by omega)).up (by omega)) (fun rv g1 hc => ?_)
        rcases hc with ⟨hrk, rfl, rfl⟩ | ⟨hrk, rfl, f, rfl⟩
        · skip
          refine RQ.seg 7 (pc' := 40) (L' := [some (.ref 0), some (.int (iI row)), some (.int (iI b)), some (.int (iI j)), some (.int (iI 99)), none, none, none, none]) (st' := [.int (iI 1), .ref 32]) (g1 := (HW sc (usc ar 78 (rwp nb.toNat row (ar 78))) tx oc rl ou tl, q)) rfl ?_
          refine RQ.ialdv (z := 1) (v := (law 1)) rfl rfl rfl (by omega) (by decide) (hlw 1 (by omega) (by omega)) ?_
          refine RQ.seg 5 (pc' := 49) (L' := [some (.ref 0), some (.int (iI row)), some (.int (iI b)), some (.int (iI j)), some (.int (iI 99)), some (.int (iI (law 1))), some (.int (iI 0)), some (.int (iI 0)), none]) (st' := []) (g1 := (HW sc (usc ar 78 (rwp nb.toNat row (ar 78))) tx oc rl ou tl, q)) rfl ?_
          refine x_bs_l (P := prow nb row) hF hL (by omega) (by omega) (fun c h0 h1 _ => prow_ok hn.2.2.1 hrk.2.2 c h0 h1) 100 0 sc (usc ar 78 (rwp nb.toNat row (ar 78))) 99 (law 1) 0 _ (by omega) hX hlw (fun c h0 h1 _ => prow_c _ hn.2.2.1 h0 h1) (by omega) (Or.inl ⟨rfl, rfl, rfl, rfl⟩) (fun sc' ar' p v h1 h2 h3 => ⟨?_, _, _, rfl, h1, Same.tr (Same.us rfl Same.rf) h2⟩)
          congr 3; unfold sBest; rw [if_pos (c := (0 ≤ b ∧ b < nb) ∧ (0 ≤ j ∧ j ≤ 1) ∧ rok nw nb W B row) ⟨by omega, by omega, hrk⟩, h3]
        · skip
          refine RQ.seg 2 (pc' := 27) (L' := [some (.ref 0), some (.int (iI row)), some (.int (iI b)), some (.int (iI j)), none, none, none, none, none]) (st' := [.int (iI (-1000000))]) (g1 := (HW sc (usc ar 78 f) tx oc rl ou tl, q)) rfl ?_
          refine RQ.ret rfl rfl ?_
          refine ⟨?_, _, _, rfl, (by repeat (first | exact Same.rf | refine Same.us rfl ?_)), (by repeat (first | exact Same.rf | refine Same.us rfl ?_))⟩
          first | (exfalso; omega) | (congr 3; unfold sBest; first | (rw [if_neg (fun z => by first | omega | exact hrk z.2.2)]; done) | (rw [if_pos (by first | exact ⟨by omega, by omega, hrk⟩ | exact ⟨by omega, hrk⟩ | omega)]; (repeat (first | rw [if_pos (by omega)] | rw [if_neg (by omega)])); done))
  · skip
    refine RQ.call rfl rfl (x_isBrN_f (by omega) hX hF h1) ?_
    refine RQ.seg 2 (pc' := 27) (L' := [some (.ref 0), some (.int (iI row)), some (.int (iI b)), some (.int (iI j)), none, none, none, none, none]) (st' := [.int (iI (-1000000))]) (g1 := (HW sc ar tx oc rl ou tl, q)) rfl ?_
    refine RQ.ret rfl rfl ?_
    refine ⟨?_, _, _, rfl, (by repeat (first | exact Same.rf | refine Same.us rfl ?_)), (by repeat (first | exact Same.rf | refine Same.us rfl ?_))⟩
    first | (exfalso; omega) | (congr 3; unfold sBest; first | (rw [if_neg (fun z => by first | omega | exact hrk z.2.2)]; done) | (rw [if_pos (by first | exact ⟨by omega, by omega, hrk⟩ | exact ⟨by omega, hrk⟩ | omega)]; (repeat (first | rw [if_pos (by omega)] | rw [if_neg (by omega)])); done))
theorem m_bs_l {K : PK} {d : Nat} {tx oc : Nat} {rl : Nat → Option Nat} {ou : Nat → Int64} {tl : List PO} {q : Nat × Nat} {Q : Option Value → PG → Prop} {nw nb : Int} {W B : Int → Int → Int} (hF : FrOK nw nb W B) {law P : Int → Int} (hL : LwOK law) {row b j : Int} (hb : 0 ≤ b ∧ b < nb) (hj : 0 ≤ j ∧ j ≤ 1) (hmo : ∀ c, 0 ≤ c → c < nb → c ≠ b → may nw W B c (P c)) : ∀ (m n : Nat) (sc : Nat → Int) (ar : Nat → Int → Int) (p v : Int) (hm : n + m = (pls nw W B b).length) (hM : FrM (sc 8024) (sc 8025) (ar 85) (ar 86) nw nb W B) (hP : PMx nw nb W B (ar 94) (ar 95)) (hlw : ∀ j, 0 ≤ j → j < 4 → ar 87 j = law j) (hpo : ∀ c, 0 ≤ c → c < nb → c ≠ b → ar 96 c = P c) (rp : (-1 ≤ p ∧ p ≤ 99) ∧ (-1000 ≤ v ∧ v ≤ 4000)) (hi : BM (-1) 0 (bst (bsg nw nb W B law P b) ((pls nw W B b).take n)) p v) (hk : ∀ sc' ar' p v, Same scF sc sc' → Same scA ar ar' → bst (bsg nw nb W B law P b) (pls nw W B b) = some (p, v) → Q (some (.int (iI (if j = 0 then p else v)))) (HW sc' ar' tx oc rl ou tl, q)), RQ K (d + 3) 11 false (some .int) cd202 44 [some (.ref 80), some (.int (iI row)), some (.int (iI b)), some (.int (iI j)), some (.int (iI p)), some (.int (iI v)), some (.int (iI (n : Int)))] [] (HW sc ar tx oc rl ou tl, q) Q
  | 0, n, sc, ar, p, v, hm, hM, hP, hlw, hpo, rp, hi, hk => by
    have hn := hF.1
    have hm1 := hM.1
    have hm2 := hM.2.1
    have h25 := pls_25 (W := W) (B := B) (b := b) hF.1.2.1
    refine RQ.seg 4 (pc' := 51) (L' := [some (.ref 80), some (.int (iI row)), some (.int (iI b)), some (.int (iI j)), some (.int (iI p)), some (.int (iI v)), some (.int (iI (n : Int)))]) (st' := [.int (iI b), .ref 95, .int (iI (n : Int))]) (g1 := (HW sc ar tx oc rl ou tl, q)) rfl ?_
    refine RQ.ialdv (z := b) (v := ((pls nw W B b).length : Int)) rfl rfl rfl (by omega) (by decide) (hP b (by omega) (by omega)).1 ?_
    refine RQ.if2 (a := (n : Int)) (b := ((pls nw W B b).length : Int)) rfl rfl rfl rfl (by omega) (by omega) (fun _ => ?_) (fun (q : ¬ ((pls nw W B b).length : Int) ≤ (n : Int)) => absurd (show ((pls nw W B b).length : Int) ≤ (n : Int) from by omega) q)
    refine RQ.seg 1 (pc' := 120) (L' := [some (.ref 80), some (.int (iI row)), some (.int (iI b)), some (.int (iI j)), some (.int (iI p)), some (.int (iI v)), some (.int (iI (n : Int)))]) (st' := [.int (iI j)]) (g1 := (HW sc ar tx oc rl ou tl, q)) rfl ?_
    refine RQ.if1 (a := j) rfl rfl rfl (by omega) (fun (h2 : j ≠ 0) => ?_) (fun (h2 : ¬ j ≠ 0) => ?_)
    · skip
      refine RQ.seg 1 (pc' := 130) (L' := [some (.ref 80), some (.int (iI row)), some (.int (iI b)), some (.int (iI j)), some (.int (iI p)), some (.int (iI v)), some (.int (iI (n : Int)))]) (st' := [.int (iI v)]) (g1 := (HW sc ar tx oc rl ou tl, q)) rfl ?_
      refine RQ.ret rfl rfl ?_
      obtain ⟨p0, v0, e0⟩ := bst_pls (bsg nw nb W B law P b) nw W B b
      have e1 : bst (bsg nw nb W B law P b) (pls nw W B b) = some (p, v) := by
        rw [List.take_of_length_le (by omega)] at hi
        rcases hi with ⟨z, _⟩ | ⟨z, _⟩
        · rw [e0] at z; cases z
        · exact z
      have e2 := hk sc ar p v Same.rf Same.rf e1
      first | (rw [if_pos (by omega)] at e2; exact e2) | (rw [if_neg (by omega)] at e2; exact e2)
    · skip
      refine RQ.seg 2 (pc' := 130) (L' := [some (.ref 80), some (.int (iI row)), some (.int (iI b)), some (.int (iI j)), some (.int (iI p)), some (.int (iI v)), some (.int (iI (n : Int)))]) (st' := [.int (iI p)]) (g1 := (HW sc ar tx oc rl ou tl, q)) rfl ?_
      refine RQ.ret rfl rfl ?_
      obtain ⟨p0, v0, e0⟩ := bst_pls (bsg nw nb W B law P b) nw W B b
      have e1 : bst (bsg nw nb W B law P b) (pls nw W B b) = some (p, v) := by
        rw [List.take_of_length_le (by omega)] at hi
        rcases hi with ⟨z, _⟩ | ⟨z, _⟩
        · rw [e0] at z; cases z
        · exact z
      have e2 := hk sc ar p v Same.rf Same.rf e1
      first | (rw [if_pos (by omega)] at e2; exact e2) | (rw [if_neg (by omega)] at e2; exact e2)
  | m + 1, n, sc, ar, p, v, hm, hM, hP, hlw, hpo, rp, hi, hk => by
    have hn := hF.1
    have hm1 := hM.1
    have hm2 := hM.2.1
    have h25 := pls_25 (W := W) (B := B) (b := b) hF.1.2.1
    have hmay := pls_mem.mp (lat_mem (l := pls nw W B b) (k := (n : Int)) (by omega))
    have rz : 0 ≤ lat (pls nw W B b) (n : Int) ∧ lat (pls nw W B b) (n : Int) ≤ 99 := by rcases hmay with z | z <;> omega
    refine RQ.seg 4 (pc' := 51) (L' := [some (.ref 80), some (.int (iI row)), some (.int (iI b)), some (.int (iI j)), some (.int (iI p)), some (.int (iI v)), some (.int (iI (n : Int)))]) (st' := [.int (iI b), .ref 95, .int (iI (n : Int))]) (g1 := (HW sc ar tx oc rl ou tl, q)) rfl ?_
    refine RQ.ialdv (z := b) (v := ((pls nw W B b).length : Int)) rfl rfl rfl (by omega) (by decide) (hP b (by omega) (by omega)).1 ?_
    refine RQ.if2 (a := (n : Int)) (b := ((pls nw W B b).length : Int)) rfl rfl rfl rfl (by omega) (by omega) (fun (q : ((pls nw W B b).length : Int) ≤ (n : Int)) => absurd q (show ¬ ((pls nw W B b).length : Int) ≤ (n : Int) from by omega)) (fun _ => ?_)
    refine RQ.seg 10 (pc' := 71) (L' := [some (.ref 80), some (.int (iI row)), some (.int (iI b)), some (.int (iI j)), some (.int (iI p)), some (.int (iI v)), some (.int (iI (n : Int)))]) (st' := [.int (((iI 25) * (iI b)) + (iI (n : Int))), .ref 94, .int (iI b), .ref 96]) (g1 := (HW sc ar tx oc rl ou tl, q)) rfl ?_
    refine RQ.ialdv (z := (25 * b + (n : Int))) (v := (lat (pls nw W B b) (n : Int))) rfl (by simp only [iI_add, iI_sub, iI_mul, iI_neg]) rfl (by omega) (by decide) ((hP b (by omega) (by omega)).2 (n : Int) (by omega) (by omega)) ?_
    refine RQ.iast (z := b) (v := (lat (pls nw W B b) (n : Int))) (g1 := (HW sc (usc ar 96 (usz (ar 96) b (lat (pls nw W B b) (n : Int)))) tx oc rl ou tl, q)) rfl rfl rfl rfl (by omega) (by decide) (HWa_96 rfl) ?_
    refine RQ.seg 1 (pc' := 74) (L' := [some (.ref 80), some (.int (iI row)), some (.int (iI b)), some (.int (iI j)), some (.int (iI p)), some (.int (iI v)), some (.int (iI (n : Int)))]) (st' := [.ref 80]) (g1 := (HW sc (usc ar 96 (usz (ar 96) b (lat (pls nw W B b) (n : Int)))) tx oc rl ou tl, q)) rfl ?_
    have hmy := pt_us (p := lat (pls nw W B b) (n : Int)) hmo hmay
    refine RQ.callQ rfl rfl (m_judgeA (d := d) (sc := sc) (ar := usc ar 96 (usz (ar 96) b (lat (pls nw W B b) (n : Int)))) (P := usz P b (lat (pls nw W B b) (n : Int))) hF hM (fun c h0 h1 => usz_c (fun e => hpo c h0 h1 e) rfl) hmy hlw hL) (fun rv g1 hc => ?_)
    obtain ⟨rfl, sc1, ar1, rfl, hJ, hs1, ha1⟩ := hc
    have hs2 : Same scF sc sc1 := hs1.w rfl
    have ha2 : Same scA ar ar1 := Same.tr (Same.us rfl Same.rf) (ha1.w rfl)
    have hM1 := hM.sm hs2 ha2
    have hP1 : PMx nw nb W B (ar1 94) (ar1 95) := by rw [ha2 94 rfl, ha2 95 rfl]; exact hP
    have hlw1 : ∀ j, 0 ≤ j → j < 4 → ar1 87 j = law j := fun j h0 h1 => (congrFun (ha2 87 rfl) j).trans (hlw j h0 h1)
    have hpo1 : ∀ c, 0 ≤ c → c < nb → c ≠ b → ar1 96 c = P c := fun c h0 h1 h2 => (congrFun (ha1 96 rfl) c).trans ((usz_n h2).trans (hpo c h0 h1 h2))
    have hgr := gnr_r hF hmy hL hb
    refine RQ.seg 2 (pc' := 80) (L' := [some (.ref 80), some (.int (iI row)), some (.int (iI b)), some (.int (iI j)), some (.int (iI p)), some (.int (iI v)), some (.int (iI (n : Int)))]) (st' := [.int (iI (-1)), .int (iI p)]) (g1 := (HW sc1 ar1 tx oc rl ou tl, q)) rfl ?_
    refine RQ.if2 (a := p) (b := (-1)) rfl rfl rfl rfl (by omega) (by omega) (fun (h2 : p = (-1)) => ?_) (fun (h2 : ¬ p = (-1)) => ?_)
    · skip
      refine RQ.seg 3 (pc' := 102) (L' := [some (.ref 80), some (.int (iI row)), some (.int (iI b)), some (.int (iI j)), some (.int (iI p)), some (.int (iI v)), some (.int (iI (n : Int)))]) (st' := [.int (iI b), .ref 96]) (g1 := (HW sc1 ar1 tx oc rl ou tl, q)) rfl ?_
      refine RQ.ialdv (z := b) (v := (lat (pls nw W B b) (n : Int))) rfl rfl rfl (by omega) (by decide) ((congrFun (ha1 96 rfl) b).trans (usz_s _ _ _)) ?_
      refine RQ.seg 4 (pc' := 110) (L' := [some (.ref 80), some (.int (iI row)), some (.int (iI b)), some (.int (iI j)), some (.int (iI (lat (pls nw W B b) (n : Int)))), some (.int (iI v)), some (.int (iI (n : Int)))]) (st' := [.int (iI b), .ref 100]) (g1 := (HW sc1 ar1 tx oc rl ou tl, q)) rfl ?_
      refine RQ.ialdv (z := b) (v := (gnr nw nb W B law (usz P b (lat (pls nw W B b) (n : Int))) b)) rfl rfl rfl (by omega) (by decide) (hJ.2.2.2.2.2 b (by omega) (by omega)) ?_
      refine RQ.seg 3 (pc' := 44) (L' := [some (.ref 80), some (.int (iI row)), some (.int (iI b)), some (.int (iI j)), some (.int (iI (lat (pls nw W B b) (n : Int)))), some (.int (iI (gnr nw nb W B law (usz P b (lat (pls nw W B b) (n : Int))) b))), some (.int ((iI (n : Int)) + (iI 1)))]) (st' := []) (g1 := (HW sc1 ar1 tx oc rl ou tl, q)) rfl ?_
      refine RQ.to (L' := [some (.ref 80), some (.int (iI row)), some (.int (iI b)), some (.int (iI j)), some (.int (iI (lat (pls nw W B b) (n : Int)))), some (.int (iI (gnr nw nb W B law (usz P b (lat (pls nw W B b) (n : Int))) b))), some (.int (iI ((n : Int) + 1)))]) (st' := []) (by simp only [iI_add, iI_sub, iI_mul, iI_neg]) rfl ?_
      refine m_bs_l hF hL hb hj hmo m (n + 1) sc1 ar1 (lat (pls nw W B b) (n : Int)) (gnr nw nb W B law (usz P b (lat (pls nw W B b) (n : Int))) b) (by omega) hM1 hP1 hlw1 hpo1 (by omega) ?_ (fun sc' ar' p' v' h1 h2 h3 => hk sc' ar' p' v' (hs2.tr h1) (ha2.tr h2) h3)
      rw [bst_take _ _ n (by omega)]
      rcases hi with ⟨e1, e2, e3⟩ | ⟨e1, e2⟩ <;> rw [e1]
      · first | (exfalso; omega) | exact Or.inr ⟨rfl, by omega⟩
      · first | (exfalso; omega) | (refine Or.inr ⟨?_, by omega⟩; show (if v < bsg nw nb W B law P b (lat (pls nw W B b) (n : Int)) then _ else _) = _; unfold bsg; first | rw [if_pos (by omega)] | rw [if_neg (by omega)])
    · skip
      refine RQ.seg 3 (pc' := 88) (L' := [some (.ref 80), some (.int (iI row)), some (.int (iI b)), some (.int (iI j)), some (.int (iI p)), some (.int (iI v)), some (.int (iI (n : Int)))]) (st' := [.int (iI b), .ref 100]) (g1 := (HW sc1 ar1 tx oc rl ou tl, q)) rfl ?_
      refine RQ.ialdv (z := b) (v := (gnr nw nb W B law (usz P b (lat (pls nw W B b) (n : Int))) b)) rfl rfl rfl (by omega) (by decide) (hJ.2.2.2.2.2 b (by omega) (by omega)) ?_
      refine RQ.seg 1 (pc' := 91) (L' := [some (.ref 80), some (.int (iI row)), some (.int (iI b)), some (.int (iI j)), some (.int (iI p)), some (.int (iI v)), some (.int (iI (n : Int)))]) (st' := [.int (iI v), .int (iI (gnr nw nb W B law (usz P b (lat (pls nw W B b) (n : Int))) b))]) (g1 := (HW sc1 ar1 tx oc rl ou tl, q)) rfl ?_
      refine RQ.if2 (a := (gnr nw nb W B law (usz P b (lat (pls nw W B b) (n : Int))) b)) (b := v) rfl rfl rfl rfl (by omega) (by omega) (fun (h3 : v < gnr nw nb W B law (usz P b (lat (pls nw W B b) (n : Int))) b) => ?_) (fun (h3 : ¬ v < gnr nw nb W B law (usz P b (lat (pls nw W B b) (n : Int))) b) => ?_)
      · skip
        refine RQ.seg 3 (pc' := 102) (L' := [some (.ref 80), some (.int (iI row)), some (.int (iI b)), some (.int (iI j)), some (.int (iI p)), some (.int (iI v)), some (.int (iI (n : Int)))]) (st' := [.int (iI b), .ref 96]) (g1 := (HW sc1 ar1 tx oc rl ou tl, q)) rfl ?_
        refine RQ.ialdv (z := b) (v := (lat (pls nw W B b) (n : Int))) rfl rfl rfl (by omega) (by decide) ((congrFun (ha1 96 rfl) b).trans (usz_s _ _ _)) ?_
        refine RQ.seg 4 (pc' := 110) (L' := [some (.ref 80), some (.int (iI row)), some (.int (iI b)), some (.int (iI j)), some (.int (iI (lat (pls nw W B b) (n : Int)))), some (.int (iI v)), some (.int (iI (n : Int)))]) (st' := [.int (iI b), .ref 100]) (g1 := (HW sc1 ar1 tx oc rl ou tl, q)) rfl ?_
        refine RQ.ialdv (z := b) (v := (gnr nw nb W B law (usz P b (lat (pls nw W B b) (n : Int))) b)) rfl rfl rfl (by omega) (by decide) (hJ.2.2.2.2.2 b (by omega) (by omega)) ?_
        refine RQ.seg 3 (pc' := 44) (L' := [some (.ref 80), some (.int (iI row)), some (.int (iI b)), some (.int (iI j)), some (.int (iI (lat (pls nw W B b) (n : Int)))), some (.int (iI (gnr nw nb W B law (usz P b (lat (pls nw W B b) (n : Int))) b))), some (.int ((iI (n : Int)) + (iI 1)))]) (st' := []) (g1 := (HW sc1 ar1 tx oc rl ou tl, q)) rfl ?_
        refine RQ.to (L' := [some (.ref 80), some (.int (iI row)), some (.int (iI b)), some (.int (iI j)), some (.int (iI (lat (pls nw W B b) (n : Int)))), some (.int (iI (gnr nw nb W B law (usz P b (lat (pls nw W B b) (n : Int))) b))), some (.int (iI ((n : Int) + 1)))]) (st' := []) (by simp only [iI_add, iI_sub, iI_mul, iI_neg]) rfl ?_
        refine m_bs_l hF hL hb hj hmo m (n + 1) sc1 ar1 (lat (pls nw W B b) (n : Int)) (gnr nw nb W B law (usz P b (lat (pls nw W B b) (n : Int))) b) (by omega) hM1 hP1 hlw1 hpo1 (by omega) ?_ (fun sc' ar' p' v' h1 h2 h3 => hk sc' ar' p' v' (hs2.tr h1) (ha2.tr h2) h3)
        rw [bst_take _ _ n (by omega)]
        rcases hi with ⟨e1, e2, e3⟩ | ⟨e1, e2⟩ <;> rw [e1]
        · first | (exfalso; omega) | exact Or.inr ⟨rfl, by omega⟩
        · first | (exfalso; omega) | (refine Or.inr ⟨?_, by omega⟩; show (if v < bsg nw nb W B law P b (lat (pls nw W B b) (n : Int)) then _ else _) = _; unfold bsg; first | rw [if_pos (by omega)] | rw [if_neg (by omega)])
      · skip
        refine RQ.seg 3 (pc' := 44) (L' := [some (.ref 80), some (.int (iI row)), some (.int (iI b)), some (.int (iI j)), some (.int (iI p)), some (.int (iI v)), some (.int ((iI (n : Int)) + (iI 1)))]) (st' := []) (g1 := (HW sc1 ar1 tx oc rl ou tl, q)) rfl ?_
        refine RQ.to (L' := [some (.ref 80), some (.int (iI row)), some (.int (iI b)), some (.int (iI j)), some (.int (iI p)), some (.int (iI v)), some (.int (iI ((n : Int) + 1)))]) (st' := []) (by simp only [iI_add, iI_sub, iI_mul, iI_neg]) rfl ?_
        refine m_bs_l hF hL hb hj hmo m (n + 1) sc1 ar1 p v (by omega) hM1 hP1 hlw1 hpo1 (by omega) ?_ (fun sc' ar' p' v' h1 h2 h3 => hk sc' ar' p' v' (hs2.tr h1) (ha2.tr h2) h3)
        rw [bst_take _ _ n (by omega)]
        rcases hi with ⟨e1, e2, e3⟩ | ⟨e1, e2⟩ <;> rw [e1]
        · first | (exfalso; omega) | exact Or.inr ⟨rfl, by omega⟩
        · first | (exfalso; omega) | (refine Or.inr ⟨?_, by omega⟩; show (if v < bsg nw nb W B law P b (lat (pls nw W B b) (n : Int)) then _ else _) = _; unfold bsg; first | rw [if_pos (by omega)] | rw [if_neg (by omega)])
theorem m_best {K : PK} {d : Nat} {sc : Nat → Int} {ar : Nat → Int → Int} {tx oc : Nat} {rl : Nat → Option Nat} {ou : Nat → Int64} {tl : List PO} {q : Nat × Nat} {row b j : Int} {nw nb : Int} {W B : Int → Int → Int} (hF : FrOK nw nb W B) (hM : FrM (sc 8024) (sc 8025) (ar 85) (ar 86) nw nb W B) (hP : PMx nw nb W B (ar 94) (ar 95)) {law : Int → Int} (hlw : ∀ j, 0 ≤ j → j < 4 → ar 87 j = law j) (hL : LwOK law) (rrow : -2147483648 ≤ row ∧ row < 2147483648) (rb : -2147483648 ≤ b ∧ b < 2147483648) (rj : -2147483648 ≤ j ∧ j < 2147483648) : CQ K (d + 4) 202 [.ref 80, .int (iI row), .int (iI b), .int (iI j)] (HW sc ar tx oc rl ou tl, q) (fun r g' => r = some (.int (iI (sBest nw nb W B law row b j))) ∧ ∃ sc' ar', g' = (HW sc' ar' tx oc rl ou tl, q) ∧ Same scF sc sc' ∧ Same scA ar ar') := by
  have hn := hF.1
  have hm1 := hM.1
  have hm2 := hM.2.1
  refine CQ.of (own := 11) (n := 7) (ini := false) (rt := (some .int)) (cd := cd202) (by decide +kernel) rfl (by decide +kernel) rfl (Nat.le_of_ble_eq_true rfl) ?_
  refine RQ.seg 5 (pc' := 7) (L' := [some (.ref 80), some (.int (iI row)), some (.int (iI b)), some (.int (iI j)), none, none, none]) (st' := [.int (iI b), .ref 80]) (g1 := (HW (usc sc 8000 0) ar tx oc rl ou tl, q)) rfl ?_
  rcases Decidable.em (0 ≤ b ∧ b < nb) with h1 | h1
  · skip
    refine RQ.call rfl rfl (m_isBrN_t (by omega) hM hF h1) ?_
    refine RQ.seg 2 (pc' := 14) (L' := [some (.ref 80), some (.int (iI row)), some (.int (iI b)), some (.int (iI j)), none, none, none]) (st' := [.int (iI j)]) (g1 := (HW (usc sc 8000 0) ar tx oc rl ou tl, q)) rfl ?_
    refine RQ.seg 1 (pc' := 15) (L' := [some (.ref 80), some (.int (iI row)), some (.int (iI b)), some (.int (iI j)), none, none, none]) (st' := [.long ((iI j).toInt64)]) (g1 := (HW (usc sc 8000 0) ar tx oc rl ou tl, q)) rfl ?_
    refine RQ.to (L' := [some (.ref 80), some (.int (iI row)), some (.int (iI b)), some (.int (iI j)), none, none, none]) (st' := [.long (lL j)]) rfl (by rw [iI_64 (by omega)]) ?_
    refine RQ.seg 2 (pc' := 17) (L' := [some (.ref 80), some (.int (iI row)), some (.int (iI b)), some (.int (iI j)), none, none, none]) (st' := [.long (lL 1), .long (lL 0), .long (lL j)]) (g1 := (HW (usc sc 8000 0) ar tx oc rl ou tl, q)) rfl ?_
    rcases Decidable.em (0 ≤ j ∧ j ≤ 1) with h2 | h2
    · skip
      refine RQ.call rfl rfl (m_isIn_t (by omega) (by omega) (by omega) h2) ?_
      refine RQ.seg 3 (pc' := 25) (L' := [some (.ref 80), some (.int (iI row)), some (.int (iI b)), some (.int (iI j)), none, none, none]) (st' := [.int (iI row), .ref 80]) (g1 := (HW (usc sc 8000 0) ar tx oc rl ou tl, q)) rfl ?_
      refine RQ.callQ rfl rfl (m_isRow (sc := usc sc 8000 0) (ar := ar) hF hM hP (row := row) (by omega)) (fun rv g1 hc => ?_)
      rcases hc with ⟨hrk, rfl, rfl⟩ | ⟨hrk, rfl, f, rfl⟩
      · skip
        refine RQ.seg 7 (pc' := 44) (L' := [some (.ref 80), some (.int (iI row)), some (.int (iI b)), some (.int (iI j)), some (.int (iI (-1))), some (.int (iI 0)), some (.int (iI 0))]) (st' := []) (g1 := (HW (usc sc 8000 0) (usc ar 96 (rwp nb.toNat row (ar 96))) tx oc rl ou tl, q)) rfl ?_
        refine m_bs_l (P := prow nb row) hF hL (by omega) (by omega) (fun c h0 h1 _ => prow_ok hn.2.2.1 hrk.2.2 c h0 h1) (pls nw W B b).length 0 (usc sc 8000 0) (usc ar 96 (rwp nb.toNat row (ar 96))) (-1) 0 (by omega) hM hP hlw (fun c h0 h1 _ => prow_c _ hn.2.2.1 h0 h1) (by omega) (Or.inl ⟨rfl, rfl, rfl⟩) (fun sc' ar' p v h1 h2 h3 => ⟨?_, _, _, rfl, Same.tr (Same.us rfl Same.rf) h1, Same.tr (Same.us rfl Same.rf) h2⟩)
        congr 3; unfold sBest; rw [if_pos (c := (0 ≤ b ∧ b < nb) ∧ (0 ≤ j ∧ j ≤ 1) ∧ rok nw nb W B row) ⟨by omega, by omega, hrk⟩, h3]
      · skip
        refine RQ.seg 2 (pc' := 34) (L' := [some (.ref 80), some (.int (iI row)), some (.int (iI b)), some (.int (iI j)), none, none, none]) (st' := [.int (iI (-1000000))]) (g1 := (HW (usc sc 8000 0) (usc ar 96 f) tx oc rl ou tl, q)) rfl ?_
        refine RQ.ret rfl rfl ?_
        refine ⟨?_, _, _, rfl, (by repeat (first | exact Same.rf | refine Same.us rfl ?_)), (by repeat (first | exact Same.rf | refine Same.us rfl ?_))⟩
        first | (exfalso; omega) | (congr 3; unfold sBest; first | (rw [if_neg (fun z => by first | omega | exact hrk z.2.2)]; done) | (rw [if_pos (by first | exact ⟨by omega, by omega, hrk⟩ | exact ⟨by omega, hrk⟩ | omega)]; (repeat (first | rw [if_pos (by omega)] | rw [if_neg (by omega)])); done))
    · skip
      refine RQ.call rfl rfl (m_isIn_f (by omega) (by omega) (by omega) h2) ?_
      refine RQ.seg 2 (pc' := 34) (L' := [some (.ref 80), some (.int (iI row)), some (.int (iI b)), some (.int (iI j)), none, none, none]) (st' := [.int (iI (-1000000))]) (g1 := (HW (usc sc 8000 0) ar tx oc rl ou tl, q)) rfl ?_
      refine RQ.ret rfl rfl ?_
      refine ⟨?_, _, _, rfl, (by repeat (first | exact Same.rf | refine Same.us rfl ?_)), (by repeat (first | exact Same.rf | refine Same.us rfl ?_))⟩
      first | (exfalso; omega) | (congr 3; unfold sBest; first | (rw [if_neg (fun z => by first | omega | exact hrk z.2.2)]; done) | (rw [if_pos (by first | exact ⟨by omega, by omega, hrk⟩ | exact ⟨by omega, hrk⟩ | omega)]; (repeat (first | rw [if_pos (by omega)] | rw [if_neg (by omega)])); done))
  · skip
    refine RQ.call rfl rfl (m_isBrN_f (by omega) hM hF h1) ?_
    refine RQ.seg 2 (pc' := 34) (L' := [some (.ref 80), some (.int (iI row)), some (.int (iI b)), some (.int (iI j)), none, none, none]) (st' := [.int (iI (-1000000))]) (g1 := (HW (usc sc 8000 0) ar tx oc rl ou tl, q)) rfl ?_
    refine RQ.ret rfl rfl ?_
    refine ⟨?_, _, _, rfl, (by repeat (first | exact Same.rf | refine Same.us rfl ?_)), (by repeat (first | exact Same.rf | refine Same.us rfl ?_))⟩
    first | (exfalso; omega) | (congr 3; unfold sBest; first | (rw [if_neg (fun z => by first | omega | exact hrk z.2.2)]; done) | (rw [if_pos (by first | exact ⟨by omega, by omega, hrk⟩ | exact ⟨by omega, hrk⟩ | omega)]; (repeat (first | rw [if_pos (by omega)] | rw [if_neg (by omega)])); done))
theorem x_al_l {K : PK} {d : Nat} {tx oc : Nat} {rl : Nat → Option Nat} {ou : Nat → Int64} {tl : List PO} {q : Nat × Nat} {Q : Option Value → PG → Prop} {nw nb : Int} {W B : Int → Int → Int} (hF : FrOK nw nb W B) {b j : Int} (hb : 0 ≤ b ∧ b < nb) (hj : 0 ≤ j ∧ j ≤ 1) : ∀ (m n : Nat) (sc : Nat → Int) (ar : Nat → Int → Int) (p v : Int) (hm : n + m = 99) (hX : FrX (sc 303) (sc 304) (ar 5) (ar 6) (ar 7) (ar 8) (ar 10) (ar 11) (ar 12) nw nb W B) (hpo : ∀ c, 0 ≤ c → c < nb → c ≠ b → ar 78 c = 99) (rp : (0 ≤ p ∧ p ≤ 99) ∧ (0 ≤ v ∧ v ≤ 36)) (hi : BM 99 0 (bst (alg nb W B b) (fl (mb nw W B b) n)) p v) (hk : ∀ sc' ar', Same scF sc sc' → Same scA ar ar' → Q (some (.int (iI (match bst (alg nb W B b) (fl (mb nw W B b) 99) with | some (p, v) => if j = 0 then v else p | none => if j = 0 then 0 else 99)))) (HW sc' ar' tx oc rl ou tl, q)), RQ K (d + 5) 10 false (some .int) cd130 49 [some (.ref 0), some (.int (iI b)), some (.int (iI j)), some (.int (iI p)), some (.int (iI v)), some (.int (iI (n : Int)))] [] (HW sc ar tx oc rl ou tl, q) Q
  | 0, n, sc, ar, p, v, hm, hX, hpo, rp, hi, hk => by
    have hn := hF.1
    have hm1 := hX.1
    have hm2 := hX.2.1
    refine RQ.seg 2 (pc' := 53) (L' := [some (.ref 0), some (.int (iI b)), some (.int (iI j)), some (.int (iI p)), some (.int (iI v)), some (.int (iI (n : Int)))]) (st' := [.int (iI 99), .int (iI (n : Int))]) (g1 := (HW sc ar tx oc rl ou tl, q)) rfl ?_
    refine RQ.if2 (a := (n : Int)) (b := 99) rfl rfl rfl rfl (by omega) (by omega) (fun _ => ?_) (fun (q : ¬ 99 ≤ (n : Int)) => absurd (show 99 ≤ (n : Int) from by omega) q)
    refine RQ.seg 1 (pc' := 125) (L' := [some (.ref 0), some (.int (iI b)), some (.int (iI j)), some (.int (iI p)), some (.int (iI v)), some (.int (iI (n : Int)))]) (st' := [.int (iI j)]) (g1 := (HW sc ar tx oc rl ou tl, q)) rfl ?_
    refine RQ.if1 (a := j) rfl rfl rfl (by omega) (fun (h2 : j ≠ 0) => ?_) (fun (h2 : ¬ j ≠ 0) => ?_)
    · skip
      refine RQ.seg 1 (pc' := 134) (L' := [some (.ref 0), some (.int (iI b)), some (.int (iI j)), some (.int (iI p)), some (.int (iI v)), some (.int (iI (n : Int)))]) (st' := [.int (iI p)]) (g1 := (HW sc ar tx oc rl ou tl, q)) rfl ?_
      refine RQ.ret rfl rfl ?_
      have e2 := hk sc ar Same.rf Same.rf
      obtain rfl : n = 99 := by omega
      rcases hi with ⟨z, z1, z2⟩ | ⟨z, z1⟩ <;> rw [z] at e2 <;> dsimp only at e2
      · subst z1 z2; first | (rw [if_pos (by omega)] at e2; exact e2) | (rw [if_neg (by omega)] at e2; exact e2)
      · first | (rw [if_pos (by omega)] at e2; exact e2) | (rw [if_neg (by omega)] at e2; exact e2)
    · skip
      refine RQ.seg 2 (pc' := 134) (L' := [some (.ref 0), some (.int (iI b)), some (.int (iI j)), some (.int (iI p)), some (.int (iI v)), some (.int (iI (n : Int)))]) (st' := [.int (iI v)]) (g1 := (HW sc ar tx oc rl ou tl, q)) rfl ?_
      refine RQ.ret rfl rfl ?_
      have e2 := hk sc ar Same.rf Same.rf
      obtain rfl : n = 99 := by omega
      rcases hi with ⟨z, z1, z2⟩ | ⟨z, z1⟩ <;> rw [z] at e2 <;> dsimp only at e2
      · subst z1 z2; first | (rw [if_pos (by omega)] at e2; exact e2) | (rw [if_neg (by omega)] at e2; exact e2)
      · first | (rw [if_pos (by omega)] at e2; exact e2) | (rw [if_neg (by omega)] at e2; exact e2)
  | m + 1, n, sc, ar, p, v, hm, hX, hpo, rp, hi, hk => by
    have hn := hF.1
    have hm1 := hX.1
    have hm2 := hX.2.1
    refine RQ.seg 2 (pc' := 53) (L' := [some (.ref 0), some (.int (iI b)), some (.int (iI j)), some (.int (iI p)), some (.int (iI v)), some (.int (iI (n : Int)))]) (st' := [.int (iI 99), .int (iI (n : Int))]) (g1 := (HW sc ar tx oc rl ou tl, q)) rfl ?_
    refine RQ.if2 (a := (n : Int)) (b := 99) rfl rfl rfl rfl (by omega) (by omega) (fun (q : 99 ≤ (n : Int)) => absurd q (show ¬ 99 ≤ (n : Int) from by omega)) (fun _ => ?_)
    refine RQ.seg 4 (pc' := 63) (L' := [some (.ref 0), some (.int (iI b)), some (.int (iI j)), some (.int (iI p)), some (.int (iI v)), some (.int (iI (n : Int)))]) (st' := [.int (iI (n : Int)), .int (iI b), .ref 3]) (g1 := (HW sc ar tx oc rl ou tl, q)) rfl ?_
    rcases Decidable.em (may nw W B b (n : Int)) with hmay | hmay
    · skip
      refine RQ.call rfl rfl (CallR.up (d := 2) (x_may_t (d := 0) hF hX (by omega) (by omega) hmay) (by omega)) ?_
      refine RQ.seg 5 (pc' := 76) (L' := [some (.ref 0), some (.int (iI b)), some (.int (iI j)), some (.int (iI p)), some (.int (iI v)), some (.int (iI (n : Int)))]) (st' := [.int (iI (n : Int)), .int (iI b), .ref 78]) (g1 := (HW sc ar tx oc rl ou tl, q)) rfl ?_
      refine RQ.iast (z := b) (v := (n : Int)) (g1 := (HW sc (usc ar 78 (usz (ar 78) b (n : Int))) tx oc rl ou tl, q)) rfl rfl rfl rfl (by omega) (by decide) (HWa_78 rfl) ?_
      refine RQ.seg 4 (pc' := 85) (L' := [some (.ref 0), some (.int (iI b)), some (.int (iI j)), some (.int (iI p)), some (.int (iI v)), some (.int (iI (n : Int)))]) (st' := [.ref 78, .ref 51]) (g1 := (HW sc (usc ar 78 (usz (ar 78) b (n : Int))) tx oc rl ou tl, q)) rfl ?_
      have hmy := pt_us (P := fun _ => 99) (p := (n : Int)) (nb := nb) (fun c _ _ _ => Or.inl rfl) hmay
      refine RQ.callQ rfl rfl ((x_run78 (d := 0) (sc := sc) (ar := usc ar 78 (usz (ar 78) b (n : Int))) (P := usz (fun _ => 99) b (n : Int)) hF hX (fun c h0 h1 => usz_c (fun e => hpo c h0 h1 e) rfl) hmy).up (by omega)) (fun rv g1 hc => ?_)
      obtain ⟨rfl, sc1, ar1, rfl, hp, hs1, ha1⟩ := hc
      have hs2 : Same scF sc sc1 := hs1.w rfl
      have ha2 : Same scA ar ar1 := Same.tr (Same.us rfl Same.rf) (ha1.w rfl)
      have hX1 := hX.sm hs2 ha2
      have hpo1 : ∀ c, 0 ≤ c → c < nb → c ≠ b → ar1 78 c = 99 := fun c h0 h1 h2 => (congrFun (ha1 78 rfl) c).trans ((usz_n h2).trans (hpo c h0 h1 h2))
      have hTv : sc1 5112 = alg nb W B b (n : Int) := by obtain ⟨y, _, _, h3, _⟩ := hp; exact h3.2.1.trans (alone_T hF hb hmay)
      have hgr : 0 ≤ alg nb W B b (n : Int) ∧ alg nb W B b (n : Int) ≤ 36 := by have h1 := (svn_ok hF hmy).2.1; have h2 := lsm_nn (svn_ok hF hmy); rw [← alone_T hF hb hmay]; omega
      refine RQ.seg 2 (pc' := 91) (L' := [some (.ref 0), some (.int (iI b)), some (.int (iI j)), some (.int (iI p)), some (.int (iI v)), some (.int (iI (n : Int)))]) (st' := [.int (iI 99), .int (iI p)]) (g1 := (HW sc1 ar1 tx oc rl ou tl, q)) rfl ?_
      refine RQ.if2 (a := p) (b := 99) rfl rfl rfl rfl (by omega) (by omega) (fun (h2 : p = 99) => ?_) (fun (h2 : ¬ p = 99) => ?_)
      · skip
        refine RQ.seg 4 (pc' := 113) (L' := [some (.ref 0), some (.int (iI b)), some (.int (iI j)), some (.int (iI (n : Int))), some (.int (iI v)), some (.int (iI (n : Int)))]) (st' := [.ref 51]) (g1 := (HW sc1 ar1 tx oc rl ou tl, q)) rfl ?_
        refine RQ.seg 1 (pc' := 116) (L' := [some (.ref 0), some (.int (iI b)), some (.int (iI j)), some (.int (iI (n : Int))), some (.int (iI v)), some (.int (iI (n : Int)))]) (st' := [.int (iI (sc1 5112))]) (g1 := (HW sc1 ar1 tx oc rl ou tl, q)) rfl ?_
        refine RQ.to (L' := [some (.ref 0), some (.int (iI b)), some (.int (iI j)), some (.int (iI (n : Int))), some (.int (iI v)), some (.int (iI (n : Int)))]) (st' := [.int (iI (alg nb W B b (n : Int)))]) rfl (by rw [hTv]) ?_
        refine RQ.seg 3 (pc' := 49) (L' := [some (.ref 0), some (.int (iI b)), some (.int (iI j)), some (.int (iI (n : Int))), some (.int (iI (alg nb W B b (n : Int)))), some (.int ((iI (n : Int)) + (iI 1)))]) (st' := []) (g1 := (HW sc1 ar1 tx oc rl ou tl, q)) rfl ?_
        refine RQ.to (L' := [some (.ref 0), some (.int (iI b)), some (.int (iI j)), some (.int (iI (n : Int))), some (.int (iI (alg nb W B b (n : Int)))), some (.int (iI ((n : Int) + 1)))]) (st' := []) (by simp only [iI_add, iI_sub, iI_mul, iI_neg]) rfl ?_
        refine x_al_l hF hb hj m (n + 1) sc1 ar1 (n : Int) (alg nb W B b (n : Int)) (by omega) hX1 hpo1 (by omega) ?_ (fun sc' ar' h1 h2 => hk sc' ar' (hs2.tr h1) (ha2.tr h2))
        rw [fl_t (mb_t.mpr hmay), bst_app]
        rcases hi with ⟨e1, e2, e3⟩ | ⟨e1, e2⟩ <;> rw [e1]
        · first | (exfalso; omega) | exact Or.inr ⟨rfl, by omega⟩
        · first | (exfalso; omega) | (refine Or.inr ⟨?_, by omega⟩; show (if v < alg nb W B b (n : Int) then _ else _) = _; first | rw [if_pos (by omega)] | rw [if_neg (by omega)])
      · skip
        refine RQ.seg 2 (pc' := 98) (L' := [some (.ref 0), some (.int (iI b)), some (.int (iI j)), some (.int (iI p)), some (.int (iI v)), some (.int (iI (n : Int)))]) (st' := [.ref 51]) (g1 := (HW sc1 ar1 tx oc rl ou tl, q)) rfl ?_
        refine RQ.seg 1 (pc' := 101) (L' := [some (.ref 0), some (.int (iI b)), some (.int (iI j)), some (.int (iI p)), some (.int (iI v)), some (.int (iI (n : Int)))]) (st' := [.int (iI (sc1 5112))]) (g1 := (HW sc1 ar1 tx oc rl ou tl, q)) rfl ?_
        refine RQ.to (L' := [some (.ref 0), some (.int (iI b)), some (.int (iI j)), some (.int (iI p)), some (.int (iI v)), some (.int (iI (n : Int)))]) (st' := [.int (iI (alg nb W B b (n : Int)))]) rfl (by rw [hTv]) ?_
        refine RQ.seg 1 (pc' := 103) (L' := [some (.ref 0), some (.int (iI b)), some (.int (iI j)), some (.int (iI p)), some (.int (iI v)), some (.int (iI (n : Int)))]) (st' := [.int (iI v), .int (iI (alg nb W B b (n : Int)))]) (g1 := (HW sc1 ar1 tx oc rl ou tl, q)) rfl ?_
        refine RQ.if2 (a := (alg nb W B b (n : Int))) (b := v) rfl rfl rfl rfl (by omega) (by omega) (fun (h3 : alg nb W B b (n : Int) ≤ v) => ?_) (fun (h3 : ¬ alg nb W B b (n : Int) ≤ v) => ?_)
        · skip
          refine RQ.seg 2 (pc' := 49) (L' := [some (.ref 0), some (.int (iI b)), some (.int (iI j)), some (.int (iI p)), some (.int (iI v)), some (.int ((iI (n : Int)) + (iI 1)))]) (st' := []) (g1 := (HW sc1 ar1 tx oc rl ou tl, q)) rfl ?_
          refine RQ.to (L' := [some (.ref 0), some (.int (iI b)), some (.int (iI j)), some (.int (iI p)), some (.int (iI v)), some (.int (iI ((n : Int) + 1)))]) (st' := []) (by simp only [iI_add, iI_sub, iI_mul, iI_neg]) rfl ?_
          refine x_al_l hF hb hj m (n + 1) sc1 ar1 p v (by omega) hX1 hpo1 (by omega) ?_ (fun sc' ar' h1 h2 => hk sc' ar' (hs2.tr h1) (ha2.tr h2))
          rw [fl_t (mb_t.mpr hmay), bst_app]
          rcases hi with ⟨e1, e2, e3⟩ | ⟨e1, e2⟩ <;> rw [e1]
          · first | (exfalso; omega) | exact Or.inr ⟨rfl, by omega⟩
          · first | (exfalso; omega) | (refine Or.inr ⟨?_, by omega⟩; show (if v < alg nb W B b (n : Int) then _ else _) = _; first | rw [if_pos (by omega)] | rw [if_neg (by omega)])
        · skip
          refine RQ.seg 4 (pc' := 113) (L' := [some (.ref 0), some (.int (iI b)), some (.int (iI j)), some (.int (iI (n : Int))), some (.int (iI v)), some (.int (iI (n : Int)))]) (st' := [.ref 51]) (g1 := (HW sc1 ar1 tx oc rl ou tl, q)) rfl ?_
          refine RQ.seg 1 (pc' := 116) (L' := [some (.ref 0), some (.int (iI b)), some (.int (iI j)), some (.int (iI (n : Int))), some (.int (iI v)), some (.int (iI (n : Int)))]) (st' := [.int (iI (sc1 5112))]) (g1 := (HW sc1 ar1 tx oc rl ou tl, q)) rfl ?_
          refine RQ.to (L' := [some (.ref 0), some (.int (iI b)), some (.int (iI j)), some (.int (iI (n : Int))), some (.int (iI v)), some (.int (iI (n : Int)))]) (st' := [.int (iI (alg nb W B b (n : Int)))]) rfl (by rw [hTv]) ?_
          refine RQ.seg 3 (pc' := 49) (L' := [some (.ref 0), some (.int (iI b)), some (.int (iI j)), some (.int (iI (n : Int))), some (.int (iI (alg nb W B b (n : Int)))), some (.int ((iI (n : Int)) + (iI 1)))]) (st' := []) (g1 := (HW sc1 ar1 tx oc rl ou tl, q)) rfl ?_
          refine RQ.to (L' := [some (.ref 0), some (.int (iI b)), some (.int (iI j)), some (.int (iI (n : Int))), some (.int (iI (alg nb W B b (n : Int)))), some (.int (iI ((n : Int) + 1)))]) (st' := []) (by simp only [iI_add, iI_sub, iI_mul, iI_neg]) rfl ?_
          refine x_al_l hF hb hj m (n + 1) sc1 ar1 (n : Int) (alg nb W B b (n : Int)) (by omega) hX1 hpo1 (by omega) ?_ (fun sc' ar' h1 h2 => hk sc' ar' (hs2.tr h1) (ha2.tr h2))
          rw [fl_t (mb_t.mpr hmay), bst_app]
          rcases hi with ⟨e1, e2, e3⟩ | ⟨e1, e2⟩ <;> rw [e1]
          · first | (exfalso; omega) | exact Or.inr ⟨rfl, by omega⟩
          · first | (exfalso; omega) | (refine Or.inr ⟨?_, by omega⟩; show (if v < alg nb W B b (n : Int) then _ else _) = _; first | rw [if_pos (by omega)] | rw [if_neg (by omega)])
    · skip
      refine RQ.call rfl rfl (CallR.up (d := 2) (x_may_f (d := 0) hF hX (by omega) (by omega) hmay) (by omega)) ?_
      refine RQ.seg 3 (pc' := 49) (L' := [some (.ref 0), some (.int (iI b)), some (.int (iI j)), some (.int (iI p)), some (.int (iI v)), some (.int ((iI (n : Int)) + (iI 1)))]) (st' := []) (g1 := (HW sc ar tx oc rl ou tl, q)) rfl ?_
      refine RQ.to (L' := [some (.ref 0), some (.int (iI b)), some (.int (iI j)), some (.int (iI p)), some (.int (iI v)), some (.int (iI ((n : Int) + 1)))]) (st' := []) (by simp only [iI_add, iI_sub, iI_mul, iI_neg]) rfl ?_
      exact x_al_l hF hb hj m (n + 1) sc ar p v (by omega) hX hpo rp (by rw [fl_f (mb_f.mpr hmay)]; exact hi) hk
theorem x_alone {K : PK} {d : Nat} {sc : Nat → Int} {ar : Nat → Int → Int} {tx oc : Nat} {rl : Nat → Option Nat} {ou : Nat → Int64} {tl : List PO} {q : Nat × Nat} {b j : Int} {nw nb : Int} {W B : Int → Int → Int} (hF : FrOK nw nb W B) (hX : FrX (sc 303) (sc 304) (ar 5) (ar 6) (ar 7) (ar 8) (ar 10) (ar 11) (ar 12) nw nb W B) (rb : -2147483648 ≤ b ∧ b < 2147483648) (rj : -2147483648 ≤ j ∧ j < 2147483648) : CQ K (d + 6) 130 [.ref 0, .int (iI b), .int (iI j)] (HW sc ar tx oc rl ou tl, q) (fun r g' => r = some (.int (iI (sAlone nw nb W B b j))) ∧ ∃ sc' ar', g' = (HW sc' ar' tx oc rl ou tl, q) ∧ Same scF sc sc' ∧ Same scA ar ar') := by
  have hn := hF.1
  have hm1 := hX.1
  have hm2 := hX.2.1
  refine CQ.of (own := 10) (n := 6) (ini := false) (rt := (some .int)) (cd := cd130) (by decide +kernel) rfl (by decide +kernel) rfl (Nat.le_of_ble_eq_true rfl) ?_
  refine RQ.seg 2 (pc' := 2) (L' := [some (.ref 0), some (.int (iI b)), some (.int (iI j)), none, none, none]) (st' := [.int (iI b), .ref 0]) (g1 := (HW sc ar tx oc rl ou tl, q)) rfl ?_
  rcases Decidable.em (0 ≤ b ∧ b < nb) with h1 | h1
  · skip
    refine RQ.call rfl rfl (x_isBrN_t (by omega) hX hF h1) ?_
    refine RQ.seg 2 (pc' := 9) (L' := [some (.ref 0), some (.int (iI b)), some (.int (iI j)), none, none, none]) (st' := [.int (iI j)]) (g1 := (HW sc ar tx oc rl ou tl, q)) rfl ?_
    refine RQ.if1 (a := j) rfl rfl rfl (by omega) (fun (h2 : j < 0) => ?_) (fun (h2 : ¬ j < 0) => ?_)
    · skip
      refine RQ.seg 1 (pc' := 18) (L' := [some (.ref 0), some (.int (iI b)), some (.int (iI j)), none, none, none]) (st' := [.int (iI (-1))]) (g1 := (HW sc ar tx oc rl ou tl, q)) rfl ?_
      refine RQ.ret rfl rfl ?_
      refine ⟨?_, _, _, rfl, (by repeat (first | exact Same.rf | refine Same.us rfl ?_)), (by repeat (first | exact Same.rf | refine Same.us rfl ?_))⟩
      first | (exfalso; omega) | (congr 3; unfold sAlone; first | (rw [if_neg (fun z => by first | omega | exact False.elim (by omega))]; done) | (rw [if_pos (by first | exact ⟨by omega, by omega, hrk⟩ | exact ⟨by omega, hrk⟩ | omega)]; (repeat (first | rw [if_pos (by omega)] | rw [if_neg (by omega)])); done))
    · skip
      refine RQ.seg 2 (pc' := 14) (L' := [some (.ref 0), some (.int (iI b)), some (.int (iI j)), none, none, none]) (st' := [.int (iI 1), .int (iI j)]) (g1 := (HW sc ar tx oc rl ou tl, q)) rfl ?_
      refine RQ.if2 (a := j) (b := 1) rfl rfl rfl rfl (by omega) (by omega) (fun (h3 : j ≤ 1) => ?_) (fun (h3 : ¬ j ≤ 1) => ?_)
      · skip
        refine RQ.seg 9 (pc' := 33) (L' := [some (.ref 0), some (.int (iI b)), some (.int (iI j)), some (.int (iI 0)), none, none]) (st' := [.int (iI 99), .int (iI 0), .ref 78]) (g1 := (HW sc ar tx oc rl ou tl, q)) rfl ?_
        refine RQ.iast (z := 0) (v := 99) (g1 := (HW sc (usc ar 78 (usz (ar 78) 0 99)) tx oc rl ou tl, q)) rfl rfl rfl rfl (by omega) (by decide) (HWa_78 rfl) ?_
        refine RQ.seg 9 (pc' := 33) (L' := [some (.ref 0), some (.int (iI b)), some (.int (iI j)), some (.int (iI 1)), none, none]) (st' := [.int (iI 99), .int (iI 1), .ref 78]) (g1 := (HW sc (usc ar 78 (usz (ar 78) 0 99)) tx oc rl ou tl, q)) rfl ?_
        refine RQ.iast (z := 1) (v := 99) (g1 := (HW sc (usc ar 78 (usz (usz (ar 78) 0 99) 1 99)) tx oc rl ou tl, q)) rfl rfl rfl rfl (by omega) (by decide) (HWa_78 (by funext j; unfold usc; cases hb : Nat.beq j 78 <;> first | rfl | (rw [Nat.eq_of_beq_eq_true hb]; rfl))) ?_
        refine RQ.seg 9 (pc' := 33) (L' := [some (.ref 0), some (.int (iI b)), some (.int (iI j)), some (.int (iI 2)), none, none]) (st' := [.int (iI 99), .int (iI 2), .ref 78]) (g1 := (HW sc (usc ar 78 (usz (usz (ar 78) 0 99) 1 99)) tx oc rl ou tl, q)) rfl ?_
        refine RQ.iast (z := 2) (v := 99) (g1 := (HW sc (usc ar 78 (usz (usz (usz (ar 78) 0 99) 1 99) 2 99)) tx oc rl ou tl, q)) rfl rfl rfl rfl (by omega) (by decide) (HWa_78 (by funext j; unfold usc; cases hb : Nat.beq j 78 <;> first | rfl | (rw [Nat.eq_of_beq_eq_true hb]; rfl))) ?_
        refine RQ.seg 11 (pc' := 49) (L' := [some (.ref 0), some (.int (iI b)), some (.int (iI j)), some (.int (iI 99)), some (.int (iI 0)), some (.int (iI 0))]) (st' := []) (g1 := (HW sc (usc ar 78 (usz (usz (usz (ar 78) 0 99) 1 99) 2 99)) tx oc rl ou tl, q)) rfl ?_
        refine x_al_l hF (by omega) (by omega) 99 0 sc (usc ar 78 (usz (usz (usz (ar 78) 0 99) 1 99) 2 99)) 99 0 (by omega) hX (fun c h0 h1 _ => ?_) (by omega) (Or.inl ⟨rfl, rfl, rfl⟩) (fun sc' ar' h1 h2 => ⟨?_, _, _, rfl, h1, Same.tr (Same.us rfl Same.rf) h2⟩)
        · show (usz (usz (usz (ar 78) 0 99) 1 99) 2 99) c = 99
          rcases (show c = 0 ∨ c = 1 ∨ c = 2 by omega) with rfl | rfl | rfl <;> (repeat (first | rw [usz_s] | rw [usz_n (by omega)]))
        · congr 3; unfold sAlone; rw [if_pos (c := (0 ≤ b ∧ b < nb) ∧ (0 ≤ j ∧ j ≤ 1)) ⟨by omega, by omega⟩]
      · skip
        refine RQ.seg 1 (pc' := 18) (L' := [some (.ref 0), some (.int (iI b)), some (.int (iI j)), none, none, none]) (st' := [.int (iI (-1))]) (g1 := (HW sc ar tx oc rl ou tl, q)) rfl ?_
        refine RQ.ret rfl rfl ?_
        refine ⟨?_, _, _, rfl, (by repeat (first | exact Same.rf | refine Same.us rfl ?_)), (by repeat (first | exact Same.rf | refine Same.us rfl ?_))⟩
        first | (exfalso; omega) | (congr 3; unfold sAlone; first | (rw [if_neg (fun z => by first | omega | exact False.elim (by omega))]; done) | (rw [if_pos (by first | exact ⟨by omega, by omega, hrk⟩ | exact ⟨by omega, hrk⟩ | omega)]; (repeat (first | rw [if_pos (by omega)] | rw [if_neg (by omega)])); done))
  · skip
    refine RQ.call rfl rfl (x_isBrN_f (by omega) hX hF h1) ?_
    refine RQ.seg 2 (pc' := 18) (L' := [some (.ref 0), some (.int (iI b)), some (.int (iI j)), none, none, none]) (st' := [.int (iI (-1))]) (g1 := (HW sc ar tx oc rl ou tl, q)) rfl ?_
    refine RQ.ret rfl rfl ?_
    refine ⟨?_, _, _, rfl, (by repeat (first | exact Same.rf | refine Same.us rfl ?_)), (by repeat (first | exact Same.rf | refine Same.us rfl ?_))⟩
    first | (exfalso; omega) | (congr 3; unfold sAlone; first | (rw [if_neg (fun z => by first | omega | exact False.elim (by omega))]; done) | (rw [if_pos (by first | exact ⟨by omega, by omega, hrk⟩ | exact ⟨by omega, hrk⟩ | omega)]; (repeat (first | rw [if_pos (by omega)] | rw [if_neg (by omega)])); done))
theorem pls_lt {nw : Int} {W B : Int → Int → Int} {b : Int} {n : Nat} (h : n + 1 < (pls nw W B b).length) : 0 ≤ lat (pls nw W B b) (n : Int) ∧ lat (pls nw W B b) (n : Int) < 99 := by
  rw [pls_eq] at h ⊢
  rw [List.length_append, List.length_singleton] at h
  rw [lat_l (by omega)]
  have := (fl_mem 99).mp (lat_mem (l := fl (mb nw W B b) 99) (k := (n : Int)) (by omega))
  omega
theorem m_al_o {K : PK} {d : Nat} {sc : Nat → Int} {ar : Nat → Int → Int} {tx oc : Nat} {rl : Nat → Option Nat} {ou : Nat → Int64} {tl : List PO} {q : Nat × Nat} {Q : Option Value → PG → Prop} {b j : Int} {nw nb : Int} {W B : Int → Int → Int} (hF : FrOK nw nb W B) (hM : FrM (sc 8024) (sc 8025) (ar 85) (ar 86) nw nb W B) : ∀ (m : Nat) (o : Int) (f : Int → Int) (ho : 0 ≤ o ∧ o + m = nb) (hf : ∀ c, 0 ≤ c → c < o → f c = 99) (hk : ∀ f' : Int → Int, (∀ c, 0 ≤ c → c < nb → f' c = 99) → RQ K (d + 3) 11 false (some .int) cd226 49 [some (.ref 80), some (.int (iI b)), some (.int (iI j)), some (.int (iI nb)), none, none] [] (HW (usc sc 8000 0) (usc ar 96 f') tx oc rl ou tl, q) Q), RQ K (d + 3) 11 false (some .int) cd226 27 [some (.ref 80), some (.int (iI b)), some (.int (iI j)), some (.int (iI o)), none, none] [] (HW (usc sc 8000 0) (usc ar 96 f) tx oc rl ou tl, q) Q
  | 0, o, f, ho, hf, hk => by
    have hn := hF.1
    have hm1 := hM.1
    have hm2 := hM.2.1
    refine RQ.seg 3 (pc' := 32) (L' := [some (.ref 80), some (.int (iI b)), some (.int (iI j)), some (.int (iI o)), none, none]) (st' := [.int (iI (sc 8025)), .int (iI o)]) (g1 := (HW (usc sc 8000 0) (usc ar 96 f) tx oc rl ou tl, q)) rfl ?_
    refine RQ.if2 (a := o) (b := (sc 8025)) rfl rfl rfl rfl (by omega) (by omega) (fun _ => ?_) (fun (q : ¬ sc 8025 ≤ o) => absurd (show sc 8025 ≤ o from by omega) q)
    obtain rfl : o = nb := by omega
    exact hk f hf
  | m + 1, o, f, ho, hf, hk => by
    have hn := hF.1
    have hm1 := hM.1
    have hm2 := hM.2.1
    refine RQ.seg 3 (pc' := 32) (L' := [some (.ref 80), some (.int (iI b)), some (.int (iI j)), some (.int (iI o)), none, none]) (st' := [.int (iI (sc 8025)), .int (iI o)]) (g1 := (HW (usc sc 8000 0) (usc ar 96 f) tx oc rl ou tl, q)) rfl ?_
    refine RQ.if2 (a := o) (b := (sc 8025)) rfl rfl rfl rfl (by omega) (by omega) (fun (q : sc 8025 ≤ o) => absurd q (show ¬ sc 8025 ≤ o from by omega)) (fun _ => ?_)
    refine RQ.seg 4 (pc' := 42) (L' := [some (.ref 80), some (.int (iI b)), some (.int (iI j)), some (.int (iI o)), none, none]) (st' := [.int (iI 99), .int (iI o), .ref 96]) (g1 := (HW (usc sc 8000 0) (usc ar 96 f) tx oc rl ou tl, q)) rfl ?_
    refine RQ.iast (z := o) (v := 99) (g1 := (HW (usc sc 8000 0) (usc ar 96 (usz f o 99)) tx oc rl ou tl, q)) rfl rfl rfl rfl (by omega) (by decide) (HWa_96 (by funext j; unfold usc; cases hb : Nat.beq j 96 <;> first | rfl | (rw [Nat.eq_of_beq_eq_true hb]; rfl))) ?_
    refine RQ.seg 2 (pc' := 27) (L' := [some (.ref 80), some (.int (iI b)), some (.int (iI j)), some (.int ((iI o) + (iI 1))), none, none]) (st' := []) (g1 := (HW (usc sc 8000 0) (usc ar 96 (usz f o 99)) tx oc rl ou tl, q)) rfl ?_
    refine RQ.to (L' := [some (.ref 80), some (.int (iI b)), some (.int (iI j)), some (.int (iI (o + 1))), none, none]) (st' := []) (by simp only [iI_add, iI_sub, iI_mul, iI_neg]) rfl ?_
    refine m_al_o hF hM m (o + 1) _ (by omega) (fun c h0 h1 => ?_) hk
    by_cases e : c = o
    · subst e; exact usz_s _ _ _
    · rw [usz_n e]; exact hf c h0 (by omega)
theorem m_al_l {K : PK} {d : Nat} {tx oc : Nat} {rl : Nat → Option Nat} {ou : Nat → Int64} {tl : List PO} {q : Nat × Nat} {Q : Option Value → PG → Prop} {nw nb : Int} {W B : Int → Int → Int} (hF : FrOK nw nb W B) {b j : Int} (hb : 0 ≤ b ∧ b < nb) (hj : 0 ≤ j ∧ j ≤ 1) {law : Int → Int} (hL : LwOK law) : ∀ (m n : Nat) (sc : Nat → Int) (ar : Nat → Int → Int) (p v : Int) (hm : n + m + 1 = (pls nw W B b).length) (hM : FrM (sc 8024) (sc 8025) (ar 85) (ar 86) nw nb W B) (hP : PMx nw nb W B (ar 94) (ar 95)) (hlw : ∀ j, 0 ≤ j → j < 4 → ar 87 j = law j) (hpo : ∀ c, 0 ≤ c → c < nb → c ≠ b → ar 96 c = 99) (rp : (0 ≤ p ∧ p ≤ 99) ∧ (0 ≤ v ∧ v ≤ 36)) (hi : BM 99 0 (bst (alg nb W B b) ((pls nw W B b).take n)) p v) (hk : ∀ sc' ar', Same scF sc sc' → Same scA ar ar' → Q (some (.int (iI (match bst (alg nb W B b) (fl (mb nw W B b) 99) with | some (p, v) => if j = 0 then v else p | none => if j = 0 then 0 else 99)))) (HW sc' ar' tx oc rl ou tl, q)), RQ K (d + 3) 11 false (some .int) cd226 58 [some (.ref 80), some (.int (iI b)), some (.int (iI j)), some (.int (iI p)), some (.int (iI v)), some (.int (iI (n : Int)))] [] (HW sc ar tx oc rl ou tl, q) Q
  | 0, n, sc, ar, p, v, hm, hM, hP, hlw, hpo, rp, hi, hk => by
    have hn := hF.1
    have hm1 := hM.1
    have hm2 := hM.2.1
    have h25 := pls_25 (W := W) (B := B) (b := b) hF.1.2.1
    refine RQ.seg 4 (pc' := 65) (L' := [some (.ref 80), some (.int (iI b)), some (.int (iI j)), some (.int (iI p)), some (.int (iI v)), some (.int (iI (n : Int)))]) (st' := [.int (iI b), .ref 95, .int (iI (n : Int))]) (g1 := (HW sc ar tx oc rl ou tl, q)) rfl ?_
    refine RQ.ialdv (z := b) (v := ((pls nw W B b).length : Int)) rfl rfl rfl (by omega) (by decide) (hP b (by omega) (by omega)).1 ?_
    refine RQ.seg 2 (pc' := 68) (L' := [some (.ref 80), some (.int (iI b)), some (.int (iI j)), some (.int (iI p)), some (.int (iI v)), some (.int (iI (n : Int)))]) (st' := [.int ((iI ((pls nw W B b).length : Int)) - (iI 1)), .int (iI (n : Int))]) (g1 := (HW sc ar tx oc rl ou tl, q)) rfl ?_
    refine RQ.if2 (a := (n : Int)) (b := (((pls nw W B b).length : Int) - 1)) rfl rfl rfl (by simp only [iI_add, iI_sub, iI_mul, iI_neg]) (by omega) (by omega) (fun _ => ?_) (fun (q : ¬ ((pls nw W B b).length : Int) - 1 ≤ (n : Int)) => absurd (show ((pls nw W B b).length : Int) - 1 ≤ (n : Int) from by omega) q)
    refine RQ.seg 1 (pc' := 135) (L' := [some (.ref 80), some (.int (iI b)), some (.int (iI j)), some (.int (iI p)), some (.int (iI v)), some (.int (iI (n : Int)))]) (st' := [.int (iI j)]) (g1 := (HW sc ar tx oc rl ou tl, q)) rfl ?_
    refine RQ.if1 (a := j) rfl rfl rfl (by omega) (fun (h2 : j ≠ 0) => ?_) (fun (h2 : ¬ j ≠ 0) => ?_)
    · skip
      refine RQ.seg 1 (pc' := 144) (L' := [some (.ref 80), some (.int (iI b)), some (.int (iI j)), some (.int (iI p)), some (.int (iI v)), some (.int (iI (n : Int)))]) (st' := [.int (iI p)]) (g1 := (HW sc ar tx oc rl ou tl, q)) rfl ?_
      refine RQ.ret rfl rfl ?_
      have e2 := hk sc ar Same.rf Same.rf
      rw [show (pls nw W B b).take n = fl (mb nw W B b) 99 by rw [pls_eq] at hm ⊢; rw [List.length_append, List.length_singleton] at hm; rw [List.take_append_of_le_length (by omega), List.take_of_length_le (by omega)]] at hi
      rcases hi with ⟨z, z1, z2⟩ | ⟨z, z1⟩ <;> rw [z] at e2 <;> dsimp only at e2
      · subst z1 z2; first | (rw [if_pos (by omega)] at e2; exact e2) | (rw [if_neg (by omega)] at e2; exact e2)
      · first | (rw [if_pos (by omega)] at e2; exact e2) | (rw [if_neg (by omega)] at e2; exact e2)
    · skip
      refine RQ.seg 2 (pc' := 144) (L' := [some (.ref 80), some (.int (iI b)), some (.int (iI j)), some (.int (iI p)), some (.int (iI v)), some (.int (iI (n : Int)))]) (st' := [.int (iI v)]) (g1 := (HW sc ar tx oc rl ou tl, q)) rfl ?_
      refine RQ.ret rfl rfl ?_
      have e2 := hk sc ar Same.rf Same.rf
      rw [show (pls nw W B b).take n = fl (mb nw W B b) 99 by rw [pls_eq] at hm ⊢; rw [List.length_append, List.length_singleton] at hm; rw [List.take_append_of_le_length (by omega), List.take_of_length_le (by omega)]] at hi
      rcases hi with ⟨z, z1, z2⟩ | ⟨z, z1⟩ <;> rw [z] at e2 <;> dsimp only at e2
      · subst z1 z2; first | (rw [if_pos (by omega)] at e2; exact e2) | (rw [if_neg (by omega)] at e2; exact e2)
      · first | (rw [if_pos (by omega)] at e2; exact e2) | (rw [if_neg (by omega)] at e2; exact e2)
  | m + 1, n, sc, ar, p, v, hm, hM, hP, hlw, hpo, rp, hi, hk => by
    have hn := hF.1
    have hm1 := hM.1
    have hm2 := hM.2.1
    have h25 := pls_25 (W := W) (B := B) (b := b) hF.1.2.1
    have hmay := pls_mem.mp (lat_mem (l := pls nw W B b) (k := (n : Int)) (by omega))
    have rz := pls_lt (W := W) (B := B) (b := b) (nw := nw) (n := n) (by omega)
    refine RQ.seg 4 (pc' := 65) (L' := [some (.ref 80), some (.int (iI b)), some (.int (iI j)), some (.int (iI p)), some (.int (iI v)), some (.int (iI (n : Int)))]) (st' := [.int (iI b), .ref 95, .int (iI (n : Int))]) (g1 := (HW sc ar tx oc rl ou tl, q)) rfl ?_
    refine RQ.ialdv (z := b) (v := ((pls nw W B b).length : Int)) rfl rfl rfl (by omega) (by decide) (hP b (by omega) (by omega)).1 ?_
    refine RQ.seg 2 (pc' := 68) (L' := [some (.ref 80), some (.int (iI b)), some (.int (iI j)), some (.int (iI p)), some (.int (iI v)), some (.int (iI (n : Int)))]) (st' := [.int ((iI ((pls nw W B b).length : Int)) - (iI 1)), .int (iI (n : Int))]) (g1 := (HW sc ar tx oc rl ou tl, q)) rfl ?_
    refine RQ.if2 (a := (n : Int)) (b := (((pls nw W B b).length : Int) - 1)) rfl rfl rfl (by simp only [iI_add, iI_sub, iI_mul, iI_neg]) (by omega) (by omega) (fun (q : ((pls nw W B b).length : Int) - 1 ≤ (n : Int)) => absurd q (show ¬ ((pls nw W B b).length : Int) - 1 ≤ (n : Int) from by omega)) (fun _ => ?_)
    refine RQ.seg 10 (pc' := 87) (L' := [some (.ref 80), some (.int (iI b)), some (.int (iI j)), some (.int (iI p)), some (.int (iI v)), some (.int (iI (n : Int)))]) (st' := [.int (((iI 25) * (iI b)) + (iI (n : Int))), .ref 94, .int (iI b), .ref 96]) (g1 := (HW sc ar tx oc rl ou tl, q)) rfl ?_
    refine RQ.ialdv (z := (25 * b + (n : Int))) (v := (lat (pls nw W B b) (n : Int))) rfl (by simp only [iI_add, iI_sub, iI_mul, iI_neg]) rfl (by omega) (by decide) ((hP b (by omega) (by omega)).2 (n : Int) (by omega) (by omega)) ?_
    refine RQ.iast (z := b) (v := (lat (pls nw W B b) (n : Int))) (g1 := (HW sc (usc ar 96 (usz (ar 96) b (lat (pls nw W B b) (n : Int)))) tx oc rl ou tl, q)) rfl rfl rfl rfl (by omega) (by decide) (HWa_96 rfl) ?_
    refine RQ.seg 1 (pc' := 90) (L' := [some (.ref 80), some (.int (iI b)), some (.int (iI j)), some (.int (iI p)), some (.int (iI v)), some (.int (iI (n : Int)))]) (st' := [.ref 80]) (g1 := (HW sc (usc ar 96 (usz (ar 96) b (lat (pls nw W B b) (n : Int)))) tx oc rl ou tl, q)) rfl ?_
    have hmy := pt_us (P := fun _ => 99) (p := lat (pls nw W B b) (n : Int)) (nb := nb) (fun c _ _ _ => Or.inl rfl) hmay
    refine RQ.callQ rfl rfl (m_judgeA (d := d) (sc := sc) (ar := usc ar 96 (usz (ar 96) b (lat (pls nw W B b) (n : Int)))) (P := usz (fun _ => 99) b (lat (pls nw W B b) (n : Int))) hF hM (fun c h0 h1 => usz_c (fun e => hpo c h0 h1 e) rfl) hmy hlw hL) (fun rv g1 hc => ?_)
    obtain ⟨rfl, sc1, ar1, rfl, hJ, hs1, ha1⟩ := hc
    have hs2 : Same scF sc sc1 := hs1.w rfl
    have ha2 : Same scA ar ar1 := Same.tr (Same.us rfl Same.rf) (ha1.w rfl)
    have hM1 := hM.sm hs2 ha2
    have hP1 : PMx nw nb W B (ar1 94) (ar1 95) := by rw [ha2 94 rfl, ha2 95 rfl]; exact hP
    have hlw1 : ∀ j, 0 ≤ j → j < 4 → ar1 87 j = law j := fun j h0 h1 => (congrFun (ha2 87 rfl) j).trans (hlw j h0 h1)
    have hpo1 : ∀ c, 0 ≤ c → c < nb → c ≠ b → ar1 96 c = 99 := fun c h0 h1 h2 => (congrFun (ha1 96 rfl) c).trans ((usz_n h2).trans (hpo c h0 h1 h2))
    have hgr : 0 ≤ alg nb W B b (lat (pls nw W B b) (n : Int)) ∧ alg nb W B b (lat (pls nw W B b) (n : Int)) ≤ 36 := by have h1 := (svn_ok hF hmy).2.1; have h2 := lsm_nn (svn_ok hF hmy); rw [← alone_T hF hb hmay]; omega
    refine RQ.seg 2 (pc' := 96) (L' := [some (.ref 80), some (.int (iI b)), some (.int (iI j)), some (.int (iI p)), some (.int (iI v)), some (.int (iI (n : Int)))]) (st' := [.int (iI 99), .int (iI p)]) (g1 := (HW sc1 ar1 tx oc rl ou tl, q)) rfl ?_
    refine RQ.if2 (a := p) (b := 99) rfl rfl rfl rfl (by omega) (by omega) (fun (h2 : p = 99) => ?_) (fun (h2 : ¬ p = 99) => ?_)
    · skip
      refine RQ.seg 3 (pc' := 118) (L' := [some (.ref 80), some (.int (iI b)), some (.int (iI j)), some (.int (iI p)), some (.int (iI v)), some (.int (iI (n : Int)))]) (st' := [.int (iI b), .ref 96]) (g1 := (HW sc1 ar1 tx oc rl ou tl, q)) rfl ?_
      refine RQ.ialdv (z := b) (v := (lat (pls nw W B b) (n : Int))) rfl rfl rfl (by omega) (by decide) ((congrFun (ha1 96 rfl) b).trans (usz_s _ _ _)) ?_
      refine RQ.seg 4 (pc' := 125) (L' := [some (.ref 80), some (.int (iI b)), some (.int (iI j)), some (.int (iI (lat (pls nw W B b) (n : Int)))), some (.int (iI v)), some (.int (iI (n : Int)))]) (st' := [.int (iI b), .ref 99]) (g1 := (HW sc1 ar1 tx oc rl ou tl, q)) rfl ?_
      refine RQ.ialdv (z := b) (v := (alg nb W B b (lat (pls nw W B b) (n : Int)))) rfl rfl rfl (by omega) (by decide) (hJ.2.1.2.2.1 b (by omega) (by omega)) ?_
      refine RQ.seg 3 (pc' := 58) (L' := [some (.ref 80), some (.int (iI b)), some (.int (iI j)), some (.int (iI (lat (pls nw W B b) (n : Int)))), some (.int (iI (alg nb W B b (lat (pls nw W B b) (n : Int))))), some (.int ((iI (n : Int)) + (iI 1)))]) (st' := []) (g1 := (HW sc1 ar1 tx oc rl ou tl, q)) rfl ?_
      refine RQ.to (L' := [some (.ref 80), some (.int (iI b)), some (.int (iI j)), some (.int (iI (lat (pls nw W B b) (n : Int)))), some (.int (iI (alg nb W B b (lat (pls nw W B b) (n : Int))))), some (.int (iI ((n : Int) + 1)))]) (st' := []) (by simp only [iI_add, iI_sub, iI_mul, iI_neg]) rfl ?_
      refine m_al_l hF hb hj hL m (n + 1) sc1 ar1 (lat (pls nw W B b) (n : Int)) (alg nb W B b (lat (pls nw W B b) (n : Int))) (by omega) hM1 hP1 hlw1 hpo1 (by omega) ?_ (fun sc' ar' h1 h2 => hk sc' ar' (hs2.tr h1) (ha2.tr h2))
      rw [bst_take _ _ n (by omega)]
      rcases hi with ⟨e1, e2, e3⟩ | ⟨e1, e2⟩ <;> rw [e1]
      · first | (exfalso; omega) | exact Or.inr ⟨rfl, by omega⟩
      · first | (exfalso; omega) | (refine Or.inr ⟨?_, by omega⟩; show (if v < alg nb W B b (lat (pls nw W B b) (n : Int)) then _ else _) = _; first | rw [if_pos (by omega)] | rw [if_neg (by omega)])
    · skip
      refine RQ.seg 3 (pc' := 104) (L' := [some (.ref 80), some (.int (iI b)), some (.int (iI j)), some (.int (iI p)), some (.int (iI v)), some (.int (iI (n : Int)))]) (st' := [.int (iI b), .ref 99]) (g1 := (HW sc1 ar1 tx oc rl ou tl, q)) rfl ?_
      refine RQ.ialdv (z := b) (v := (alg nb W B b (lat (pls nw W B b) (n : Int)))) rfl rfl rfl (by omega) (by decide) (hJ.2.1.2.2.1 b (by omega) (by omega)) ?_
      refine RQ.seg 1 (pc' := 107) (L' := [some (.ref 80), some (.int (iI b)), some (.int (iI j)), some (.int (iI p)), some (.int (iI v)), some (.int (iI (n : Int)))]) (st' := [.int (iI v), .int (iI (alg nb W B b (lat (pls nw W B b) (n : Int))))]) (g1 := (HW sc1 ar1 tx oc rl ou tl, q)) rfl ?_
      refine RQ.if2 (a := (alg nb W B b (lat (pls nw W B b) (n : Int)))) (b := v) rfl rfl rfl rfl (by omega) (by omega) (fun (h3 : v < alg nb W B b (lat (pls nw W B b) (n : Int))) => ?_) (fun (h3 : ¬ v < alg nb W B b (lat (pls nw W B b) (n : Int))) => ?_)
      · skip
        refine RQ.seg 3 (pc' := 118) (L' := [some (.ref 80), some (.int (iI b)), some (.int (iI j)), some (.int (iI p)), some (.int (iI v)), some (.int (iI (n : Int)))]) (st' := [.int (iI b), .ref 96]) (g1 := (HW sc1 ar1 tx oc rl ou tl, q)) rfl ?_
        refine RQ.ialdv (z := b) (v := (lat (pls nw W B b) (n : Int))) rfl rfl rfl (by omega) (by decide) ((congrFun (ha1 96 rfl) b).trans (usz_s _ _ _)) ?_
        refine RQ.seg 4 (pc' := 125) (L' := [some (.ref 80), some (.int (iI b)), some (.int (iI j)), some (.int (iI (lat (pls nw W B b) (n : Int)))), some (.int (iI v)), some (.int (iI (n : Int)))]) (st' := [.int (iI b), .ref 99]) (g1 := (HW sc1 ar1 tx oc rl ou tl, q)) rfl ?_
        refine RQ.ialdv (z := b) (v := (alg nb W B b (lat (pls nw W B b) (n : Int)))) rfl rfl rfl (by omega) (by decide) (hJ.2.1.2.2.1 b (by omega) (by omega)) ?_
        refine RQ.seg 3 (pc' := 58) (L' := [some (.ref 80), some (.int (iI b)), some (.int (iI j)), some (.int (iI (lat (pls nw W B b) (n : Int)))), some (.int (iI (alg nb W B b (lat (pls nw W B b) (n : Int))))), some (.int ((iI (n : Int)) + (iI 1)))]) (st' := []) (g1 := (HW sc1 ar1 tx oc rl ou tl, q)) rfl ?_
        refine RQ.to (L' := [some (.ref 80), some (.int (iI b)), some (.int (iI j)), some (.int (iI (lat (pls nw W B b) (n : Int)))), some (.int (iI (alg nb W B b (lat (pls nw W B b) (n : Int))))), some (.int (iI ((n : Int) + 1)))]) (st' := []) (by simp only [iI_add, iI_sub, iI_mul, iI_neg]) rfl ?_
        refine m_al_l hF hb hj hL m (n + 1) sc1 ar1 (lat (pls nw W B b) (n : Int)) (alg nb W B b (lat (pls nw W B b) (n : Int))) (by omega) hM1 hP1 hlw1 hpo1 (by omega) ?_ (fun sc' ar' h1 h2 => hk sc' ar' (hs2.tr h1) (ha2.tr h2))
        rw [bst_take _ _ n (by omega)]
        rcases hi with ⟨e1, e2, e3⟩ | ⟨e1, e2⟩ <;> rw [e1]
        · first | (exfalso; omega) | exact Or.inr ⟨rfl, by omega⟩
        · first | (exfalso; omega) | (refine Or.inr ⟨?_, by omega⟩; show (if v < alg nb W B b (lat (pls nw W B b) (n : Int)) then _ else _) = _; first | rw [if_pos (by omega)] | rw [if_neg (by omega)])
      · skip
        refine RQ.seg 3 (pc' := 58) (L' := [some (.ref 80), some (.int (iI b)), some (.int (iI j)), some (.int (iI p)), some (.int (iI v)), some (.int ((iI (n : Int)) + (iI 1)))]) (st' := []) (g1 := (HW sc1 ar1 tx oc rl ou tl, q)) rfl ?_
        refine RQ.to (L' := [some (.ref 80), some (.int (iI b)), some (.int (iI j)), some (.int (iI p)), some (.int (iI v)), some (.int (iI ((n : Int) + 1)))]) (st' := []) (by simp only [iI_add, iI_sub, iI_mul, iI_neg]) rfl ?_
        refine m_al_l hF hb hj hL m (n + 1) sc1 ar1 p v (by omega) hM1 hP1 hlw1 hpo1 (by omega) ?_ (fun sc' ar' h1 h2 => hk sc' ar' (hs2.tr h1) (ha2.tr h2))
        rw [bst_take _ _ n (by omega)]
        rcases hi with ⟨e1, e2, e3⟩ | ⟨e1, e2⟩ <;> rw [e1]
        · first | (exfalso; omega) | exact Or.inr ⟨rfl, by omega⟩
        · first | (exfalso; omega) | (refine Or.inr ⟨?_, by omega⟩; show (if v < alg nb W B b (lat (pls nw W B b) (n : Int)) then _ else _) = _; first | rw [if_pos (by omega)] | rw [if_neg (by omega)])
theorem m_alone {K : PK} {d : Nat} {sc : Nat → Int} {ar : Nat → Int → Int} {tx oc : Nat} {rl : Nat → Option Nat} {ou : Nat → Int64} {tl : List PO} {q : Nat × Nat} {b j : Int} {nw nb : Int} {W B : Int → Int → Int} (hF : FrOK nw nb W B) (hM : FrM (sc 8024) (sc 8025) (ar 85) (ar 86) nw nb W B) (hP : PMx nw nb W B (ar 94) (ar 95)) {law : Int → Int} (hlw : ∀ j, 0 ≤ j → j < 4 → ar 87 j = law j) (hL : LwOK law) (rb : -2147483648 ≤ b ∧ b < 2147483648) (rj : -2147483648 ≤ j ∧ j < 2147483648) : CQ K (d + 4) 226 [.ref 80, .int (iI b), .int (iI j)] (HW sc ar tx oc rl ou tl, q) (fun r g' => r = some (.int (iI (sAlone nw nb W B b j))) ∧ ∃ sc' ar', g' = (HW sc' ar' tx oc rl ou tl, q) ∧ Same scF sc sc' ∧ Same scA ar ar') := by
  have hn := hF.1
  have hm1 := hM.1
  have hm2 := hM.2.1
  refine CQ.of (own := 11) (n := 6) (ini := false) (rt := (some .int)) (cd := cd226) (by decide +kernel) rfl (by decide +kernel) rfl (Nat.le_of_ble_eq_true rfl) ?_
  refine RQ.seg 5 (pc' := 7) (L' := [some (.ref 80), some (.int (iI b)), some (.int (iI j)), none, none, none]) (st' := [.int (iI b), .ref 80]) (g1 := (HW (usc sc 8000 0) ar tx oc rl ou tl, q)) rfl ?_
  rcases Decidable.em (0 ≤ b ∧ b < nb) with h1 | h1
  · skip
    refine RQ.call rfl rfl (m_isBrN_t (by omega) hM hF h1) ?_
    refine RQ.seg 2 (pc' := 14) (L' := [some (.ref 80), some (.int (iI b)), some (.int (iI j)), none, none, none]) (st' := [.int (iI j)]) (g1 := (HW (usc sc 8000 0) ar tx oc rl ou tl, q)) rfl ?_
    refine RQ.seg 1 (pc' := 15) (L' := [some (.ref 80), some (.int (iI b)), some (.int (iI j)), none, none, none]) (st' := [.long ((iI j).toInt64)]) (g1 := (HW (usc sc 8000 0) ar tx oc rl ou tl, q)) rfl ?_
    refine RQ.to (L' := [some (.ref 80), some (.int (iI b)), some (.int (iI j)), none, none, none]) (st' := [.long (lL j)]) rfl (by rw [iI_64 (by omega)]) ?_
    refine RQ.seg 2 (pc' := 17) (L' := [some (.ref 80), some (.int (iI b)), some (.int (iI j)), none, none, none]) (st' := [.long (lL 1), .long (lL 0), .long (lL j)]) (g1 := (HW (usc sc 8000 0) ar tx oc rl ou tl, q)) rfl ?_
    rcases Decidable.em (0 ≤ j ∧ j ≤ 1) with h2 | h2
    · skip
      refine RQ.call rfl rfl (m_isIn_t (by omega) (by omega) (by omega) h2) ?_
      refine RQ.seg 3 (pc' := 27) (L' := [some (.ref 80), some (.int (iI b)), some (.int (iI j)), some (.int (iI 0)), none, none]) (st' := []) (g1 := (HW (usc sc 8000 0) ar tx oc rl ou tl, q)) rfl ?_
      refine RQ.hp (g1 := (HW (usc sc 8000 0) (usc ar 96 (ar 96)) tx oc rl ou tl, q)) (congrArg (fun a => (HW (usc sc 8000 0) a tx oc rl ou tl, q)) (show ar = usc ar 96 (ar 96) by funext j; unfold usc; cases hb : Nat.beq j 96 <;> first | rfl | (rw [Nat.eq_of_beq_eq_true hb]; rfl))) ?_
      refine m_al_o (sc := sc) (ar := ar) hF hM nb.toNat 0 (ar 96) (by omega) (fun c h0 h1 => absurd h1 (by omega)) (fun f hf => ?_)
      refine RQ.seg 6 (pc' := 58) (L' := [some (.ref 80), some (.int (iI b)), some (.int (iI j)), some (.int (iI 99)), some (.int (iI 0)), some (.int (iI 0))]) (st' := []) (g1 := (HW (usc sc 8000 0) (usc ar 96 f) tx oc rl ou tl, q)) rfl ?_
      have h25 := pls_25 (W := W) (B := B) (b := b) hF.1.2.1
      refine m_al_l hF (by omega) (by omega) hL ((pls nw W B b).length - 1) 0 (usc sc 8000 0) (usc ar 96 f) 99 0 (by omega) hM hP hlw (fun c h0 h1 _ => hf c h0 h1) (by omega) (Or.inl ⟨rfl, rfl, rfl⟩) (fun sc' ar' h1 h2 => ⟨?_, _, _, rfl, Same.tr (Same.us rfl Same.rf) h1, Same.tr (Same.us rfl Same.rf) h2⟩)
      congr 3; unfold sAlone; rw [if_pos (c := (0 ≤ b ∧ b < nb) ∧ (0 ≤ j ∧ j ≤ 1)) ⟨by omega, by omega⟩]
    · skip
      refine RQ.call rfl rfl (m_isIn_f (by omega) (by omega) (by omega) h2) ?_
      refine RQ.seg 2 (pc' := 24) (L' := [some (.ref 80), some (.int (iI b)), some (.int (iI j)), none, none, none]) (st' := [.int (iI (-1))]) (g1 := (HW (usc sc 8000 0) ar tx oc rl ou tl, q)) rfl ?_
      refine RQ.ret rfl rfl ?_
      refine ⟨?_, _, _, rfl, (by repeat (first | exact Same.rf | refine Same.us rfl ?_)), (by repeat (first | exact Same.rf | refine Same.us rfl ?_))⟩
      first | (exfalso; omega) | (congr 3; unfold sAlone; first | (rw [if_neg (fun z => by first | omega | exact False.elim (by omega))]; done) | (rw [if_pos (by first | exact ⟨by omega, by omega, hrk⟩ | exact ⟨by omega, hrk⟩ | omega)]; (repeat (first | rw [if_pos (by omega)] | rw [if_neg (by omega)])); done))
  · skip
    refine RQ.call rfl rfl (m_isBrN_f (by omega) hM hF h1) ?_
    refine RQ.seg 2 (pc' := 24) (L' := [some (.ref 80), some (.int (iI b)), some (.int (iI j)), none, none, none]) (st' := [.int (iI (-1))]) (g1 := (HW (usc sc 8000 0) ar tx oc rl ou tl, q)) rfl ?_
    refine RQ.ret rfl rfl ?_
    refine ⟨?_, _, _, rfl, (by repeat (first | exact Same.rf | refine Same.us rfl ?_)), (by repeat (first | exact Same.rf | refine Same.us rfl ?_))⟩
    first | (exfalso; omega) | (congr 3; unfold sAlone; first | (rw [if_neg (fun z => by first | omega | exact False.elim (by omega))]; done) | (rw [if_pos (by first | exact ⟨by omega, by omega, hrk⟩ | exact ⟨by omega, hrk⟩ | omega)]; (repeat (first | rw [if_pos (by omega)] | rw [if_neg (by omega)])); done))
