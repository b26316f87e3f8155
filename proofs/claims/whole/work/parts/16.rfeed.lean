/-! the reference: feed, end -/
theorem b8b8 (x : Int32) : x.toInt8.toInt32.toInt8.toInt32 = x.toInt8.toInt32 := by rw [← vp_nar_byte]; exact pk_vb x
theorem rm_bytesIn_l {K : PK} {d : Nat} {g : PG} (v : Int32) : ∀ (j : Nat) (hj : j ≤ 4) (n : Nat), Runs K d 11 false (some .int) cd153 5 [some (.int v), some (.int (nI n)), some (.int (kk j))] [] g (some (.int (nI (n + (bys v j).length)))) g
  | 0, _, n => by
    refine Runs.seg 1 (pc' := 6) (L' := [some (.int v), some (.int (nI n)), some (.int (kk 0))]) (st' := [.int (kk 0)]) (g1 := g) rfl ?_
    refine Runs.if1t rfl rfl (by decide) ?_
    refine Runs.seg 1 (pc' := 34) (L' := [some (.int v), some (.int (nI n)), some (.int (kk 0))]) (st' := [.int (nI n)]) (g1 := g) rfl ?_
    exact Runs.ret rfl rfl
  | j + 1, hj, n => by
    have ih := rm_bytesIn_l (K := K) (d := d) (g := g) v j (by omega)
    refine Runs.seg 1 (pc' := 6) (L' := [some (.int v), some (.int (nI n)), some (.int (kk (j + 1)))]) (st' := [.int (kk (j + 1))]) (g1 := g) rfl ?_
    refine Runs.if1f rfl rfl (kk_lt (by omega)) ?_
    refine Runs.seg 6 (pc' := 17) (L' := [some (.int v), some (.int (nI n)), some (.int (kk (j + 1)))]) (st' := [.int ((v >>> ((kk (j + 1)) &&& 31)) &&& (nI 255)), .int (nI n)]) (g1 := g) rfl ?_
    refine Runs.if1 rfl rfl (fun hc2 => ?_) (fun hc2 => ?_)
    · skip
      rw [show kk (j + 1) = nI (8 * j) from rfl, sh_s v (by omega)] at hc2
      have hz : by8 v j = 0 := (nI_z (Nat.lt_trans (by8_lt v j) (by decide))).mp (of_decide_eq_true hc2)
      refine Runs.seg 5 (pc' := 5) (L' := [some (.int v), some (.int ((nI n) + (nI 0))), some (.int ((kk (j + 1)) + (-nI 8)))]) (st' := []) (g1 := g) rfl ?_
      rw [kk_step, nI_add]
      have e : bys v (j + 1) = _ := if_pos hz
      rw [e]
      exact ih (n + 0)
    · skip
      rw [show kk (j + 1) = nI (8 * j) from rfl, sh_s v (by omega)] at hc2
      have hz : ¬ by8 v j = 0 := fun q => of_decide_eq_false hc2 ((nI_z (Nat.lt_trans (by8_lt v j) (by decide))).mpr q)
      refine Runs.seg 6 (pc' := 5) (L' := [some (.int v), some (.int ((nI n) + (nI 1))), some (.int ((kk (j + 1)) + (-nI 8)))]) (st' := []) (g1 := g) rfl ?_
      rw [kk_step, nI_add]
      have e : bys v (j + 1) = _ := if_neg hz
      rw [e]
      rw [List.length_cons, show n + ((bys v j).length + 1) = n + 1 + (bys v j).length by omega]
      exact ih (n + 1)
theorem rm_bytesIn {K : PK} {d : Nat} {g : PG} (v : Int32) : CallR K (d + 1) 153 [.int v] g (some (.int (nI (bys v 4).length))) g := by
  refine CallR.of (own := 11) (n := 3) (ini := false) (rt := (some .int)) (cd := cd153) (by decide +kernel) rfl (by decide +kernel) rfl (Nat.le_of_ble_eq_true rfl) ?_
  refine Runs.seg 4 (pc' := 5) (L' := [some (.int v), some (.int (nI 0)), some (.int (nI 24))]) (st' := []) (g1 := g) rfl ?_
  have h := rm_bytesIn_l (K := K) (d := d) (g := g) v 4 (by omega) 0
  rw [Nat.zero_add] at h
  exact h
/-- what lies on the tape behind bytes put from n on -/
def wr (f : Nat → Int32) : Nat → List Nat → (Nat → Int32)
  | _, [] => f
  | n, b :: t => wr (upd f n (sb_b b)) (n + 1) t
theorem rm_put_l {K : PK} {d : Nat} {f : Nat → PO} {tx : Nat} {ou : Nat → Int64} {tl : List PO} {q : Nat × Nat} (v : Int32) : ∀ (j : Nat) (hj : j ≤ 4) (n : Nat) (sc : Nat → Int32) (ar : Nat → Nat → Int32), sc 6 = nI n → n + (bys v j).length ≤ 160 → Runs K d 11 false none cd154 3 [some (.ref 80), some (.int v), some (.int (kk j))] [] (HM f sc tx ar ou tl, q) none (HM f (usc sc 6 (nI (n + (bys v j).length))) tx (usc ar 81 (wr (ar 81) n (bys v j))) ou tl, q)
  | 0, _, n, sc, ar, hn, hb => by
    show Runs K d 11 false none cd154 3 _ _ _ _ (HM f (usc sc 6 (nI n)) tx (usc ar 81 (ar 81)) ou tl, q)
    rw [usc_eq hn, usc_eq rfl]
    refine Runs.seg 1 (pc' := 4) (L' := [some (.ref 80), some (.int v), some (.int (kk 0))]) (st' := [.int (kk 0)]) (g1 := (HM f sc tx ar ou tl, q)) rfl ?_
    refine Runs.if1t rfl rfl (by decide) ?_
    exact Runs.ret rfl rfl
  | j + 1, hj, n, sc, ar, hn, hb => by
    refine Runs.seg 1 (pc' := 4) (L' := [some (.ref 80), some (.int v), some (.int (kk (j + 1)))]) (st' := [.int (kk (j + 1))]) (g1 := (HM f sc tx ar ou tl, q)) rfl ?_
    refine Runs.if1f rfl rfl (kk_lt (by omega)) ?_
    refine Runs.seg 5 (pc' := 14) (L' := [some (.ref 80), some (.int v), some (.int (kk (j + 1)))]) (st' := [.int ((v >>> ((kk (j + 1)) &&& 31)) &&& (nI 255))]) (g1 := (HM f sc tx ar ou tl, q)) rfl ?_
    refine Runs.if1 rfl rfl (fun hc2 => ?_) (fun hc2 => ?_)
    · skip
      rw [show kk (j + 1) = nI (8 * j) from rfl, sh_s v (by omega)] at hc2
      have hz : ¬ by8 v j = 0 := fun q => of_decide_eq_true hc2 ((nI_z (Nat.lt_trans (by8_lt v j) (by decide))).mpr q)
      have e : bys v (j + 1) = _ := if_neg hz
      rw [e, List.length_cons] at hb
      rw [e, List.length_cons]
      refine Runs.seg 8 (pc' := 32) (L' := [some (.ref 80), some (.int v), some (.int (kk (j + 1)))]) (st' := [.int ((v >>> ((kk (j + 1)) &&& 31)).toInt8.toInt32), .int (sc 6), .ref 81]) (g1 := (HM f sc tx ar ou tl, q)) rfl ?_
      refine Runs.bast (i := n) rfl hn rfl (by omega) (by decide) ?_
      refine Runs.seg 8 (pc' := 3) (L' := [some (.ref 80), some (.int v), some (.int ((kk (j + 1)) + (-nI 8)))]) (st' := []) (g1 := (HM f (usc sc 6 ((sc 6) + (nI 1))) tx (usc ar 81 (upd (ar 81) n (((v >>> ((kk (j + 1)) &&& 31)).toInt8.toInt32).toInt8.toInt32))) ou tl, q)) rfl ?_
      rw [kk_step]
      rw [hn, nI_add, show kk (j + 1) = nI (8 * j) from rfl, b8b8, sh_b v (by omega)]
      have ih := rm_put_l (K := K) (d := d) (f := f) (tx := tx) (ou := ou) (tl := tl) (q := q) v j (by omega) (n + 1) (usc sc 6 (nI (n + 1))) (usc ar 81 (upd (ar 81) n (sb_b (by8 v j)))) rfl (by omega)
      rw [usc_usc, usc_usc, show n + 1 + (bys v j).length = n + ((bys v j).length + 1) by omega] at ih
      exact ih
    · skip
      rw [show kk (j + 1) = nI (8 * j) from rfl, sh_s v (by omega)] at hc2
      have hz : by8 v j = 0 := (nI_z (Nat.lt_trans (by8_lt v j) (by decide))).mp (Decidable.not_not.mp (of_decide_eq_false hc2))
      have e : bys v (j + 1) = _ := if_pos hz
      rw [e] at hb
      rw [e]
      refine Runs.seg 3 (pc' := 3) (L' := [some (.ref 80), some (.int v), some (.int ((kk (j + 1)) + (-nI 8)))]) (st' := []) (g1 := (HM f sc tx ar ou tl, q)) rfl ?_
      rw [kk_step]
      exact rm_put_l v j (by omega) n sc ar hn hb
theorem rm_put {K : PK} {d : Nat} {f : Nat → PO} {sc : Nat → Int32} {tx : Nat} {ar : Nat → Nat → Int32} {ou : Nat → Int64} {tl : List PO} {q : Nat × Nat} {n : Nat} (v : Int32) (hn : sc 6 = nI n) (hb : n + (bys v 4).length ≤ 160) : CallR K (d + 1) 154 [.ref 80, .int v] (HM f sc tx ar ou tl, q) none (HM f (usc sc 6 (nI (n + (bys v 4).length))) tx (usc ar 81 (wr (ar 81) n (bys v 4))) ou tl, q) := by
  refine CallR.of (own := 11) (n := 3) (ini := false) (rt := none) (cd := cd154) (by decide +kernel) rfl (by decide +kernel) rfl (Nat.le_of_ble_eq_true rfl) ?_
  refine Runs.seg 2 (pc' := 3) (L' := [some (.ref 80), some (.int v), some (.int (nI 24))]) (st' := []) (g1 := (HM f sc tx ar ou tl, q)) rfl ?_
  exact rm_put_l v 4 (by omega) n sc ar hn hb
theorem rm_end {K : PK} {d : Nat} {f : Nat → PO} {sc : Nat → Int32} {tx : Nat} {ar : Nat → Nat → Int32} {ou : Nat → Int64} {tl : List PO} {q : Nat × Nat} (x : Int32) : CallR K (d + 1) 156 [.ref 80, .int x] (HM f sc tx ar ou tl, q) (some (.int (if x < 0 ∨ ¬ x ≤ sc 6 then nI 0 else nI 1))) (if x < 0 ∨ ¬ x ≤ sc 6 then (HM f (usc sc 0 (nI 0)) tx ar ou tl, q) else (HM f (usc (usc sc 0 (nI 0)) 6 x) tx ar ou tl, q)) := by
  refine CallR.of (own := 11) (n := 2) (ini := false) (rt := (some .boolean)) (cd := cd156) (by decide +kernel) rfl (by decide +kernel) rfl (Nat.le_of_ble_eq_true rfl) ?_
  refine Runs.seg 4 (pc' := 6) (L' := [some (.ref 80), some (.int x)]) (st' := [.int x]) (g1 := (HM f (usc sc 0 (nI 0)) tx ar ou tl, q)) rfl ?_
  refine Runs.if1 rfl rfl (fun hc1 => ?_) (fun hc1 => ?_)
  · skip
    have ho : x < 0 ∨ ¬ x ≤ sc 6 := Or.inl (of_decide_eq_true hc1)
    rw [if_pos ho, if_pos ho]
    refine Runs.seg 1 (pc' := 18) (L' := [some (.ref 80), some (.int x)]) (st' := [.int (nI 0)]) (g1 := (HM f (usc sc 0 (nI 0)) tx ar ou tl, q)) rfl ?_
    exact Runs.ret rfl rfl
  · skip
    refine Runs.seg 3 (pc' := 14) (L' := [some (.ref 80), some (.int x)]) (st' := [.int (sc 6), .int x]) (g1 := (HM f (usc sc 0 (nI 0)) tx ar ou tl, q)) rfl ?_
    refine Runs.if2 rfl rfl (fun hc2 => ?_) (fun hc2 => ?_)
    · skip
      have ho : ¬ (x < 0 ∨ ¬ x ≤ sc 6) := fun q => q.elim (of_decide_eq_false hc1) (fun z => z (of_decide_eq_true hc2))
      rw [if_neg ho, if_neg ho]
      refine Runs.seg 4 (pc' := 25) (L' := [some (.ref 80), some (.int x)]) (st' := [.int (nI 1)]) (g1 := (HM f (usc (usc sc 0 (nI 0)) 6 x) tx ar ou tl, q)) rfl ?_
      exact Runs.ret rfl rfl
    · skip
      have ho : x < 0 ∨ ¬ x ≤ sc 6 := Or.inr (of_decide_eq_false hc2)
      rw [if_pos ho, if_pos ho]
      refine Runs.seg 1 (pc' := 18) (L' := [some (.ref 80), some (.int x)]) (st' := [.int (nI 0)]) (g1 := (HM f (usc sc 0 (nI 0)) tx ar ou tl, q)) rfl ?_
      exact Runs.ret rfl rfl
