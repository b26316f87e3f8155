theorem wr_app (f : Nat → Int32) (n : Nat) (s t : List Nat) : wr f n (s ++ t) = wr (wr f n s) (n + s.length) t := by
  induction s generalizing f n with
  | nil => rfl
  | cons b s ih =>
    show wr (upd f n (sb_b b)) (n + 1) (s ++ t) = wr (wr (upd f n (sb_b b)) (n + 1) s) (n + (s.length + 1)) t
    rw [ih, show n + 1 + s.length = n + (s.length + 1) by omega]
/-- the bytes that a feed brings -/
def fbs (a b c d e : Int32) : List Nat := bys a 4 ++ (bys b 4 ++ (bys c 4 ++ (bys d 4 ++ bys e 4)))
theorem fbs_len (a b c d e : Int32) : (fbs a b c d e).length = (bys a 4).length + (bys b 4).length + (bys c 4).length + (bys d 4).length + (bys e 4).length := by
  unfold fbs
  simp only [List.length_append]
  omega
theorem fbs_20 (a b c d e : Int32) : (fbs a b c d e).length ≤ 20 := by
  rw [fbs_len]
  have := bys_len a 4
  have := bys_len b 4
  have := bys_len c 4
  have := bys_len d 4
  have := bys_len e 4
  omega
theorem rm_feed {K : PK} {d : Nat} {f : Nat → PO} {sc : Nat → Int32} {tx : Nat} {ar : Nat → Nat → Int32} {ou : Nat → Int64} {tl : List PO} {q : Nat × Nat} {n : Nat} (a b c x e : Int32) (hn : sc 6 = nI n) (hn1 : n ≤ 160) : CallR K (d + 2) 155 [.ref 80, .int a, .int b, .int c, .int x, .int e] (HM f sc tx ar ou tl, q) (some (.int (if n + (fbs a b c x e).length ≤ 160 then nI (n + (fbs a b c x e).length) else -nI 1))) (if n + (fbs a b c x e).length ≤ 160 then (HM f (usc (usc sc 0 (nI 0)) 6 (nI (n + (fbs a b c x e).length))) tx (usc ar 81 (wr (ar 81) n (fbs a b c x e))) ou tl, q) else (HM f (usc sc 0 (nI 0)) tx ar ou tl, q)) := by
  refine CallR.of (own := 11) (n := 6) (ini := false) (rt := (some .int)) (cd := cd155) (by decide +kernel) rfl (by decide +kernel) rfl (Nat.le_of_ble_eq_true rfl) ?_
  refine Runs.seg 6 (pc' := 10) (L' := [some (.ref 80), some (.int a), some (.int b), some (.int c), some (.int x), some (.int e)]) (st' := [.int a, .int (sc 6)]) (g1 := (HM f (usc sc 0 (nI 0)) tx ar ou tl, q)) rfl ?_
  refine Runs.call rfl rfl (rm_bytesIn (d := d) a) ?_
  refine Runs.seg 2 (pc' := 15) (L' := [some (.ref 80), some (.int a), some (.int b), some (.int c), some (.int x), some (.int e)]) (st' := [.int b, .int ((sc 6) + (nI (bys a 4).length))]) (g1 := (HM f (usc sc 0 (nI 0)) tx ar ou tl, q)) rfl ?_
  refine Runs.call rfl rfl (rm_bytesIn (d := d) b) ?_
  refine Runs.seg 2 (pc' := 20) (L' := [some (.ref 80), some (.int a), some (.int b), some (.int c), some (.int x), some (.int e)]) (st' := [.int c, .int (((sc 6) + (nI (bys a 4).length)) + (nI (bys b 4).length))]) (g1 := (HM f (usc sc 0 (nI 0)) tx ar ou tl, q)) rfl ?_
  refine Runs.call rfl rfl (rm_bytesIn (d := d) c) ?_
  refine Runs.seg 2 (pc' := 26) (L' := [some (.ref 80), some (.int a), some (.int b), some (.int c), some (.int x), some (.int e)]) (st' := [.int x, .int ((((sc 6) + (nI (bys a 4).length)) + (nI (bys b 4).length)) + (nI (bys c 4).length))]) (g1 := (HM f (usc sc 0 (nI 0)) tx ar ou tl, q)) rfl ?_
  refine Runs.call rfl rfl (rm_bytesIn (d := d) x) ?_
  refine Runs.seg 2 (pc' := 32) (L' := [some (.ref 80), some (.int a), some (.int b), some (.int c), some (.int x), some (.int e)]) (st' := [.int e, .int (((((sc 6) + (nI (bys a 4).length)) + (nI (bys b 4).length)) + (nI (bys c 4).length)) + (nI (bys x 4).length))]) (g1 := (HM f (usc sc 0 (nI 0)) tx ar ou tl, q)) rfl ?_
  refine Runs.call rfl rfl (rm_bytesIn (d := d) e) ?_
  refine Runs.seg 2 (pc' := 39) (L' := [some (.ref 80), some (.int a), some (.int b), some (.int c), some (.int x), some (.int e)]) (st' := [.int (nI 160), .int ((((((sc 6) + (nI (bys a 4).length)) + (nI (bys b 4).length)) + (nI (bys c 4).length)) + (nI (bys x 4).length)) + (nI (bys e 4).length))]) (g1 := (HM f (usc sc 0 (nI 0)) tx ar ou tl, q)) rfl ?_
  refine Runs.if2 rfl rfl (fun hc1 => ?_) (fun hc1 => ?_)
  · skip
    have h20 := fbs_20 a b c x e
    have hl := fbs_len a b c x e
    simp only [hn, nI_add] at hc1
    have hle : n + (fbs a b c x e).length ≤ 160 := by
      have := (nI_leI (by omega) (by decide)).mp (of_decide_eq_true hc1)
      omega
    rw [if_pos hle, if_pos hle, show n + (fbs a b c x e).length = n + (bys a 4).length + (bys b 4).length + (bys c 4).length + (bys x 4).length + (bys e 4).length by omega]
    have hw : wr (ar 81) n (fbs a b c x e) = wr (wr (wr (wr (wr (ar 81) n (bys a 4)) (n + (bys a 4).length) (bys b 4)) (n + (bys a 4).length + (bys b 4).length) (bys c 4)) (n + (bys a 4).length + (bys b 4).length + (bys c 4).length) (bys x 4)) (n + (bys a 4).length + (bys b 4).length + (bys c 4).length + (bys x 4).length) (bys e 4) := by
      unfold fbs
      rw [wr_app, wr_app, wr_app, wr_app]
    rw [hw]
    refine Runs.seg 2 (pc' := 46) (L' := [some (.ref 80), some (.int a), some (.int b), some (.int c), some (.int x), some (.int e)]) (st' := [.int a, .ref 80]) (g1 := (HM f (usc sc 0 (nI 0)) tx ar ou tl, q)) rfl ?_
    refine Runs.call rfl rfl (rm_put (d := d) (n := n) a hn (by omega)) ?_
    refine Runs.seg 2 (pc' := 51) (L' := [some (.ref 80), some (.int a), some (.int b), some (.int c), some (.int x), some (.int e)]) (st' := [.int b, .ref 80]) (g1 := (HM f (usc (usc sc 0 (nI 0)) 6 (nI (n + (bys a 4).length))) tx (usc ar 81 (wr (ar 81) n (bys a 4))) ou tl, q)) rfl ?_
    refine Runs.call rfl rfl (rm_put (d := d) (n := n + (bys a 4).length) b rfl (by omega)) ?_
    refine Runs.seg 2 (pc' := 56) (L' := [some (.ref 80), some (.int a), some (.int b), some (.int c), some (.int x), some (.int e)]) (st' := [.int c, .ref 80]) (g1 := (HM f (usc (usc sc 0 (nI 0)) 6 (nI (n + (bys a 4).length + (bys b 4).length))) tx (usc ar 81 (wr (wr (ar 81) n (bys a 4)) (n + (bys a 4).length) (bys b 4))) ou tl, q)) rfl ?_
    refine Runs.call rfl rfl (rm_put (d := d) (n := n + (bys a 4).length + (bys b 4).length) c rfl (by omega)) ?_
    refine Runs.seg 2 (pc' := 62) (L' := [some (.ref 80), some (.int a), some (.int b), some (.int c), some (.int x), some (.int e)]) (st' := [.int x, .ref 80]) (g1 := (HM f (usc (usc sc 0 (nI 0)) 6 (nI (n + (bys a 4).length + (bys b 4).length + (bys c 4).length))) tx (usc ar 81 (wr (wr (wr (ar 81) n (bys a 4)) (n + (bys a 4).length) (bys b 4)) (n + (bys a 4).length + (bys b 4).length) (bys c 4))) ou tl, q)) rfl ?_
    refine Runs.call rfl rfl (rm_put (d := d) (n := n + (bys a 4).length + (bys b 4).length + (bys c 4).length) x rfl (by omega)) ?_
    refine Runs.seg 2 (pc' := 68) (L' := [some (.ref 80), some (.int a), some (.int b), some (.int c), some (.int x), some (.int e)]) (st' := [.int e, .ref 80]) (g1 := (HM f (usc (usc sc 0 (nI 0)) 6 (nI (n + (bys a 4).length + (bys b 4).length + (bys c 4).length + (bys x 4).length))) tx (usc ar 81 (wr (wr (wr (wr (ar 81) n (bys a 4)) (n + (bys a 4).length) (bys b 4)) (n + (bys a 4).length + (bys b 4).length) (bys c 4)) (n + (bys a 4).length + (bys b 4).length + (bys c 4).length) (bys x 4))) ou tl, q)) rfl ?_
    refine Runs.call rfl rfl (rm_put (d := d) (n := n + (bys a 4).length + (bys b 4).length + (bys c 4).length + (bys x 4).length) e rfl (by omega)) ?_
    refine Runs.seg 2 (pc' := 75) (L' := [some (.ref 80), some (.int a), some (.int b), some (.int c), some (.int x), some (.int e)]) (st' := [.int (nI (n + (bys a 4).length + (bys b 4).length + (bys c 4).length + (bys x 4).length + (bys e 4).length))]) (g1 := (HM f (usc (usc sc 0 (nI 0)) 6 (nI (n + (bys a 4).length + (bys b 4).length + (bys c 4).length + (bys x 4).length + (bys e 4).length))) tx (usc ar 81 (wr (wr (wr (wr (wr (ar 81) n (bys a 4)) (n + (bys a 4).length) (bys b 4)) (n + (bys a 4).length + (bys b 4).length) (bys c 4)) (n + (bys a 4).length + (bys b 4).length + (bys c 4).length) (bys x 4)) (n + (bys a 4).length + (bys b 4).length + (bys c 4).length + (bys x 4).length) (bys e 4))) ou tl, q)) rfl ?_
    exact Runs.ret rfl rfl
  · skip
    have h20 := fbs_20 a b c x e
    have hl := fbs_len a b c x e
    simp only [hn, nI_add] at hc1
    have hle : ¬ n + (fbs a b c x e).length ≤ 160 := fun z => by
      have := mt (nI_leI (by omega) (by decide)).mpr (of_decide_eq_false hc1)
      omega
    rw [if_neg hle, if_neg hle]
    refine Runs.seg 1 (pc' := 43) (L' := [some (.ref 80), some (.int a), some (.int b), some (.int c), some (.int x), some (.int e)]) (st' := [.int (-nI 1)]) (g1 := (HM f (usc sc 0 (nI 0)) tx ar ou tl, q)) rfl ?_
    exact Runs.ret rfl rfl
