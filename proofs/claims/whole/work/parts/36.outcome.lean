/-! outcomes of the class, by wip/tools -/
/-- what an outcome says of b -/
def ocb (nb : Int) (W B : Int → Int → Int) (P : Int → Int) (S : SV) (b : Int) : Int := if b < nb ∧ bkv nb B P b = 0 then sS S b + shk nb W B P b * 16 + (if sF S (P b % 10) = b then 64 else 0) else 128
def ocv (nb : Int) (W B : Int → Int → Int) (P : Int → Int) (S : SV) : Int := ocb nb W B P S 0 + ocb nb W B P S 1 * 256 + ocb nb W B P S 2 * 65536
def als (o : Int) : Int := o % 16 + o / 256 % 16 + o / 65536 % 16
def bc3 (o : Int) : Int := o / 128 % 2 + o / 32768 % 2 + o / 8388608 % 2
def bki (o b : Int) : Int := o / 2 ^ (8 * b).toNat / 128 % 2
def svi (o b : Int) : Int := o / 2 ^ (8 * b).toNat % 16
def ski (o b : Int) : Int := o / 2 ^ (8 * b + 4).toNat % 4
def fsi (o b : Int) : Int := o / 2 ^ (8 * b).toNat / 64 % 2
/-- what b gains by an outcome: pay, fine, sharing -/
def ern (p q o b : Int) : Int := if q = 1 then (if 0 < 3 - bc3 o then p * als o / (3 - bc3 o) else 0) else if q = 2 ∧ fsi o b = 0 then 0 else p * svi o b
def gnx (l : Int → Int) (q o b : Int) : Int := if bki o b = 1 then l 1 else ern (l 0) q o b - l 2 * ski o b
theorem bki_r (o b : Int) : 0 ≤ bki o b ∧ bki o b ≤ 1 := by unfold bki; omega
theorem svi_r (o b : Int) : 0 ≤ svi o b ∧ svi o b ≤ 15 := by unfold svi; omega
theorem ski_r (o b : Int) : 0 ≤ ski o b ∧ ski o b ≤ 3 := by unfold ski; omega
theorem als_r (o : Int) : 0 ≤ als o ∧ als o ≤ 45 := by unfold als; omega
theorem bc3_r (o : Int) : 0 ≤ bc3 o ∧ bc3 o ≤ 3 := by unfold bc3; omega
theorem ocb_r {nw nb : Int} {W B : Int → Int → Int} {P : Int → Int} {S : SV} (hF : FrOK nw nb W B) (hmy : PtOK nw nb W B P) (hS : SOK nw nb S) (hJ : SJ nw nb W B P S) {b : Int} (hb : 0 ≤ b) : 0 ≤ ocb nb W B P S b ∧ ocb nb W B P S b ≤ 128 := by
  have h00 := hF.1
  unfold ocb
  split
  · next h =>
    have h1 := hJ.s9 hF hmy hS ⟨hb, h.1⟩
    have h2 := shn_r nb W B P b nb.toNat
    unfold shk
    split <;> omega
  · omega
theorem ocv_r {nw nb : Int} {W B : Int → Int → Int} {P : Int → Int} {S : SV} (hF : FrOK nw nb W B) (hmy : PtOK nw nb W B P) (hS : SOK nw nb S) (hJ : SJ nw nb W B P S) : 0 ≤ ocv nb W B P S ∧ ocv nb W B P S < 16777216 := by
  have h0 := ocb_r hF hmy hS hJ (b := 0) (by omega)
  have h1 := ocb_r hF hmy hS hJ (b := 1) (by omega)
  have h2 := ocb_r hF hmy hS hJ (b := 2) (by omega)
  unfold ocv
  omega
/-- a byte of an outcome -/
theorem ocv_at {nw nb : Int} {W B : Int → Int → Int} {P : Int → Int} {S : SV} (hF : FrOK nw nb W B) (hmy : PtOK nw nb W B P) (hS : SOK nw nb S) (hJ : SJ nw nb W B P S) {b r e : Int} (hb : 0 ≤ b ∧ b < 3) (hr : 0 ≤ r ∧ r ≤ 1) (he : 0 ≤ e ∧ e ≤ 1) : svi (pkm (ocv nb W B P S) r e) b = ocb nb W B P S b % 16 ∧ bki (pkm (ocv nb W B P S) r e) b = ocb nb W B P S b / 128 % 2 ∧ ski (pkm (ocv nb W B P S) r e) b = ocb nb W B P S b / 16 % 4 ∧ fsi (pkm (ocv nb W B P S) r e) b = ocb nb W B P S b / 64 % 2 := by
  have h0 := ocb_r hF hmy hS hJ (b := 0) (by omega)
  have h1 := ocb_r hF hmy hS hJ (b := 1) (by omega)
  have h2 := ocb_r hF hmy hS hJ (b := 2) (by omega)
  unfold svi bki ski fsi pkm ocv
  rcases (show b = 0 ∨ b = 1 ∨ b = 2 by omega) with rfl | rfl | rfl
  · rw [show (2 : Int) ^ (8 * (0 : Int)).toNat = 1 by decide, show (2 : Int) ^ (8 * (0 : Int) + 4).toNat = 16 by decide]
    omega
  · rw [show (2 : Int) ^ (8 * (1 : Int)).toNat = 256 by decide, show (2 : Int) ^ (8 * (1 : Int) + 4).toNat = 4096 by decide]
    omega
  · rw [show (2 : Int) ^ (8 * (2 : Int)).toNat = 65536 by decide, show (2 : Int) ^ (8 * (2 : Int) + 4).toNat = 1048576 by decide]
    omega
theorem x_savedIn {K : PK} {d : Nat} {g : PG} {o b : Int} (ho : 0 ≤ o ∧ o < 134217728) (hb : 0 ≤ b ∧ b < 3) : CallR K (d + 1) 43 [.int (iI o), .int (iI b)] g (some (.int (iI (svi o b)))) g := by
  apply CQ.x
  refine CQ.of (own := 4) (n := 2) (ini := false) (rt := (some .int)) (cd := cd43) (by decide +kernel) rfl (by decide +kernel) rfl (Nat.le_of_ble_eq_true rfl) ?_
  refine RQ.seg 4 (pc' := 5) (L' := [some (.int (iI o)), some (.int (iI b))]) (st' := [.int ((iI 8) * (iI b)), .int (iI o)]) (g1 := g) rfl ?_
  refine RQ.iushr (a := o) (b := (8 * b)) (p := 2 ^ (8 * b).toNat) rfl rfl (by simp only [iI_add, iI_sub, iI_mul, iI_neg]) (by omega) (by omega) rfl ?_
  refine RQ.seg 1 (pc' := 8) (L' := [some (.int (iI o)), some (.int (iI b))]) (st' := [.int (iI 15), .int (iI (o / (2 ^ (8 * b).toNat)))]) (g1 := g) rfl ?_
  refine RQ.iandm 4 (a := (o / (2 ^ (8 * b).toNat))) (m := 15) (p := 16) rfl rfl rfl (by decide) (by decide) (by decide) ?_
  refine RQ.ret rfl rfl ?_
  exact ⟨rfl, rfl⟩
theorem x_shakeIn {K : PK} {d : Nat} {g : PG} {o b : Int} (ho : 0 ≤ o ∧ o < 134217728) (hb : 0 ≤ b ∧ b < 3) : CallR K (d + 1) 44 [.int (iI o), .int (iI b)] g (some (.int (iI (ski o b)))) g := by
  apply CQ.x
  refine CQ.of (own := 4) (n := 2) (ini := false) (rt := (some .int)) (cd := cd44) (by decide +kernel) rfl (by decide +kernel) rfl (Nat.le_of_ble_eq_true rfl) ?_
  refine RQ.seg 6 (pc' := 7) (L' := [some (.int (iI o)), some (.int (iI b))]) (st' := [.int (((iI 8) * (iI b)) + (iI 4)), .int (iI o)]) (g1 := g) rfl ?_
  refine RQ.iushr (a := o) (b := (8 * b + 4)) (p := 2 ^ (8 * b + 4).toNat) rfl rfl (by simp only [iI_add, iI_sub, iI_mul, iI_neg]) (by omega) (by omega) rfl ?_
  refine RQ.seg 1 (pc' := 9) (L' := [some (.int (iI o)), some (.int (iI b))]) (st' := [.int (iI 3), .int (iI (o / (2 ^ (8 * b + 4).toNat)))]) (g1 := g) rfl ?_
  refine RQ.iandm 2 (a := (o / (2 ^ (8 * b + 4).toNat))) (m := 3) (p := 4) rfl rfl rfl (by decide) (by decide) (by decide) ?_
  refine RQ.ret rfl rfl ?_
  exact ⟨rfl, rfl⟩
theorem x_backIn_t {K : PK} {d : Nat} {g : PG} {o b : Int} (ho : 0 ≤ o ∧ o < 134217728) (hb : 0 ≤ b ∧ b < 3) (hP : bki o b = 1) : CallR K (d + 1) 45 [.int (iI o), .int (iI b)] g (some (.int (iI 1))) g := by
  apply CQ.x
  have hq0 : 0 ≤ o / 2 ^ (8 * b).toNat := Int.ediv_nonneg (by omega) (Int.pow_nonneg (by omega))
  have hq1 : o / 2 ^ (8 * b).toNat ≤ o := Int.ediv_le_self _ (by omega)
  unfold bki at hP
  refine CQ.of (own := 4) (n := 2) (ini := false) (rt := (some .boolean)) (cd := cd45) (by decide +kernel) rfl (by decide +kernel) rfl (Nat.le_of_ble_eq_true rfl) ?_
  refine RQ.seg 4 (pc' := 5) (L' := [some (.int (iI o)), some (.int (iI b))]) (st' := [.int ((iI 8) * (iI b)), .int (iI o)]) (g1 := g) rfl ?_
  refine RQ.iushr (a := o) (b := (8 * b)) (p := 2 ^ (8 * b).toNat) rfl rfl (by simp only [iI_add, iI_sub, iI_mul, iI_neg]) (by omega) (by omega) rfl ?_
  refine RQ.seg 1 (pc' := 9) (L' := [some (.int (iI o)), some (.int (iI b))]) (st' := [.int (iI 128), .int (iI (o / (2 ^ (8 * b).toNat)))]) (g1 := g) rfl ?_
  refine RQ.iandp 7 (a := (o / (2 ^ (8 * b).toNat))) (p := 128) rfl rfl rfl (by decide) (by omega) ?_
  refine RQ.if1 (a := ((o / (2 ^ (8 * b).toNat)) / 128 % 2 * 128)) rfl rfl rfl (by omega) (fun (q : (o / (2 ^ (8 * b).toNat)) / 128 % 2 * 128 = 0) => absurd q (show ¬ (o / (2 ^ (8 * b).toNat)) / 128 % 2 * 128 = 0 from by omega)) (fun _ => ?_)
  refine RQ.seg 2 (pc' := 18) (L' := [some (.int (iI o)), some (.int (iI b))]) (st' := [.int (iI 1)]) (g1 := g) rfl ?_
  refine RQ.ret rfl rfl ?_
  exact ⟨rfl, rfl⟩
theorem x_backIn_f {K : PK} {d : Nat} {g : PG} {o b : Int} (ho : 0 ≤ o ∧ o < 134217728) (hb : 0 ≤ b ∧ b < 3) (hP : bki o b = 0) : CallR K (d + 1) 45 [.int (iI o), .int (iI b)] g (some (.int (iI 0))) g := by
  apply CQ.x
  have hq0 : 0 ≤ o / 2 ^ (8 * b).toNat := Int.ediv_nonneg (by omega) (Int.pow_nonneg (by omega))
  have hq1 : o / 2 ^ (8 * b).toNat ≤ o := Int.ediv_le_self _ (by omega)
  unfold bki at hP
  refine CQ.of (own := 4) (n := 2) (ini := false) (rt := (some .boolean)) (cd := cd45) (by decide +kernel) rfl (by decide +kernel) rfl (Nat.le_of_ble_eq_true rfl) ?_
  refine RQ.seg 4 (pc' := 5) (L' := [some (.int (iI o)), some (.int (iI b))]) (st' := [.int ((iI 8) * (iI b)), .int (iI o)]) (g1 := g) rfl ?_
  refine RQ.iushr (a := o) (b := (8 * b)) (p := 2 ^ (8 * b).toNat) rfl rfl (by simp only [iI_add, iI_sub, iI_mul, iI_neg]) (by omega) (by omega) rfl ?_
  refine RQ.seg 1 (pc' := 9) (L' := [some (.int (iI o)), some (.int (iI b))]) (st' := [.int (iI 128), .int (iI (o / (2 ^ (8 * b).toNat)))]) (g1 := g) rfl ?_
  refine RQ.iandp 7 (a := (o / (2 ^ (8 * b).toNat))) (p := 128) rfl rfl rfl (by decide) (by omega) ?_
  refine RQ.if1 (a := ((o / (2 ^ (8 * b).toNat)) / 128 % 2 * 128)) rfl rfl rfl (by omega) (fun _ => ?_) (fun (q : ¬ (o / (2 ^ (8 * b).toNat)) / 128 % 2 * 128 = 0) => absurd (show (o / (2 ^ (8 * b).toNat)) / 128 % 2 * 128 = 0 from by omega) q)
  refine RQ.seg 1 (pc' := 18) (L' := [some (.int (iI o)), some (.int (iI b))]) (st' := [.int (iI 0)]) (g1 := g) rfl ?_
  refine RQ.ret rfl rfl ?_
  exact ⟨rfl, rfl⟩
theorem x_alls {K : PK} {d : Nat} {g : PG} {o : Int} (ho : 0 ≤ o ∧ o < 134217728) : CallR K (d + 1) 46 [.int (iI o)] g (some (.int (iI (als o)))) g := by
  apply CQ.x
  refine CQ.of (own := 4) (n := 1) (ini := false) (rt := (some .int)) (cd := cd46) (by decide +kernel) rfl (by decide +kernel) rfl (Nat.le_of_ble_eq_true rfl) ?_
  refine RQ.seg 2 (pc' := 3) (L' := [some (.int (iI o))]) (st' := [.int (iI 15), .int (iI o)]) (g1 := g) rfl ?_
  refine RQ.iandm 4 (a := o) (m := 15) (p := 16) rfl rfl rfl (by decide) (by decide) (by decide) ?_
  refine RQ.seg 2 (pc' := 7) (L' := [some (.int (iI o))]) (st' := [.int (iI 8), .int (iI o), .int (iI (o % 16))]) (g1 := g) rfl ?_
  refine RQ.iushr (a := o) (b := 8) (p := 256) rfl rfl rfl (by omega) (by omega) (by decide) ?_
  refine RQ.seg 1 (pc' := 10) (L' := [some (.int (iI o))]) (st' := [.int (iI 15), .int (iI (o / 256)), .int (iI (o % 16))]) (g1 := g) rfl ?_
  refine RQ.iandm 4 (a := (o / 256)) (m := 15) (p := 16) rfl rfl rfl (by decide) (by decide) (by decide) ?_
  refine RQ.seg 3 (pc' := 15) (L' := [some (.int (iI o))]) (st' := [.int (iI 16), .int (iI o), .int ((iI (o % 16)) + (iI ((o / 256) % 16)))]) (g1 := g) rfl ?_
  refine RQ.iushr (a := o) (b := 16) (p := 65536) rfl rfl rfl (by omega) (by omega) (by decide) ?_
  refine RQ.seg 1 (pc' := 18) (L' := [some (.int (iI o))]) (st' := [.int (iI 15), .int (iI (o / 65536)), .int ((iI (o % 16)) + (iI ((o / 256) % 16)))]) (g1 := g) rfl ?_
  refine RQ.iandm 4 (a := (o / 65536)) (m := 15) (p := 16) rfl rfl rfl (by decide) (by decide) (by decide) ?_
  refine RQ.seg 1 (pc' := 20) (L' := [some (.int (iI o))]) (st' := [.int (((iI (o % 16)) + (iI ((o / 256) % 16))) + (iI ((o / 65536) % 16)))]) (g1 := g) rfl ?_
  refine RQ.to (L' := [some (.int (iI o))]) (st' := [.int (iI (o % 16 + ((o / 256) % 16) + ((o / 65536) % 16)))]) rfl (by simp only [iI_add, iI_sub, iI_mul, iI_neg]) ?_
  refine RQ.ret rfl rfl ?_
  exact ⟨rfl, rfl⟩
theorem x_bitc {K : PK} {d : Nat} {g : PG} {x y z : Int} (hx : x = 0 ∨ x = 1) (hy : y = 0 ∨ y = 1) (hz : z = 0 ∨ z = 1) : CallR K (d + 1) 236 [.int (iI (x * 128 + y * 32768 + z * 8388608))] g (some (.int (iI (x + y + z)))) g := by
  apply CQ.x
  refine CQ.of (own := 15) (n := 1) (ini := false) (rt := (some .int)) (cd := cd236) (by decide +kernel) rfl (by decide +kernel) rfl (Nat.le_of_ble_eq_true rfl) ?_
  rcases hx with rfl | rfl <;> rcases hy with rfl | rfl <;> rcases hz with rfl | rfl
  · exact RQ.seg 41 (pc' := 52) (L' := [some (.int (iI 0))]) (st' := [.int (iI 0)]) (g1 := g) rfl (RQ.ret rfl rfl ⟨rfl, rfl⟩)
  · exact RQ.seg 41 (pc' := 52) (L' := [some (.int (iI 65793))]) (st' := [.int (iI 1)]) (g1 := g) rfl (RQ.ret rfl rfl ⟨rfl, rfl⟩)
  · exact RQ.seg 41 (pc' := 52) (L' := [some (.int (iI 257))]) (st' := [.int (iI 1)]) (g1 := g) rfl (RQ.ret rfl rfl ⟨rfl, rfl⟩)
  · exact RQ.seg 41 (pc' := 52) (L' := [some (.int (iI 66050))]) (st' := [.int (iI 2)]) (g1 := g) rfl (RQ.ret rfl rfl ⟨rfl, rfl⟩)
  · exact RQ.seg 41 (pc' := 52) (L' := [some (.int (iI 1))]) (st' := [.int (iI 1)]) (g1 := g) rfl (RQ.ret rfl rfl ⟨rfl, rfl⟩)
  · exact RQ.seg 41 (pc' := 52) (L' := [some (.int (iI 65794))]) (st' := [.int (iI 2)]) (g1 := g) rfl (RQ.ret rfl rfl ⟨rfl, rfl⟩)
  · exact RQ.seg 41 (pc' := 52) (L' := [some (.int (iI 258))]) (st' := [.int (iI 2)]) (g1 := g) rfl (RQ.ret rfl rfl ⟨rfl, rfl⟩)
  · exact RQ.seg 41 (pc' := 52) (L' := [some (.int (iI 66051))]) (st' := [.int (iI 3)]) (g1 := g) rfl (RQ.ret rfl rfl ⟨rfl, rfl⟩)
theorem x_earned {K : PK} {d : Nat} {g : PG} {o b p q : Int} (ho : 0 ≤ o ∧ o < 134217728) (hb : 0 ≤ b ∧ b < 3) (hp : 0 ≤ p ∧ p ≤ 99) (rq : 0 ≤ q ∧ q ≤ 2) : CallR K (d + 2) 48 [.int (iI o), .int (iI b), .int (iI p), .int (iI q)] g (some (.int (iI (ern p q o b)))) g := by
  apply CQ.x
  have hq0 : 0 ≤ o / 2 ^ (8 * b).toNat := Int.ediv_nonneg (by omega) (Int.pow_nonneg (by omega))
  have hq1 : o / 2 ^ (8 * b).toNat ≤ o := Int.ediv_le_self _ (by omega)
  have ha := als_r o
  have hm : 0 ≤ p * als o ∧ p * als o ≤ 99 * 45 := ⟨Int.mul_nonneg (by omega) (by omega), Int.mul_le_mul (by omega) (by omega) (by omega) (by omega)⟩
  refine CQ.of (own := 4) (n := 5) (ini := false) (rt := (some .int)) (cd := cd48) (by decide +kernel) rfl (by decide +kernel) rfl (Nat.le_of_ble_eq_true rfl) ?_
  refine RQ.seg 2 (pc' := 2) (L' := [some (.int (iI o)), some (.int (iI b)), some (.int (iI p)), some (.int (iI q)), none]) (st' := [.int (iI 1), .int (iI q)]) (g1 := g) rfl ?_
  refine RQ.if2 (a := q) (b := 1) rfl rfl rfl rfl (by omega) (by omega) (fun (h1 : q ≠ 1) => ?_) (fun (h1 : ¬ q ≠ 1) => ?_)
  · skip
    refine RQ.seg 4 (pc' := 40) (L' := [some (.int (iI o)), some (.int (iI b)), some (.int (iI p)), some (.int (iI q)), none]) (st' := [.int ((iI 8) * (iI b)), .int (iI o)]) (g1 := g) rfl ?_
    refine RQ.iushr (a := o) (b := (8 * b)) (p := 2 ^ (8 * b).toNat) rfl rfl (by simp only [iI_add, iI_sub, iI_mul, iI_neg]) (by omega) (by omega) rfl ?_
    refine RQ.seg 1 (pc' := 43) (L' := [some (.int (iI o)), some (.int (iI b)), some (.int (iI p)), some (.int (iI q)), none]) (st' := [.int (iI 64), .int (iI (o / (2 ^ (8 * b).toNat)))]) (g1 := g) rfl ?_
    refine RQ.iandp 6 (a := (o / (2 ^ (8 * b).toNat))) (p := 64) rfl rfl rfl (by decide) (by omega) ?_
    refine RQ.if1 (a := ((o / (2 ^ (8 * b).toNat)) / 64 % 2 * 64)) rfl rfl rfl (by omega) (fun (h2 : (o / (2 ^ (8 * b).toNat)) / 64 % 2 * 64 = 0) => ?_) (fun (h2 : ¬ (o / (2 ^ (8 * b).toNat)) / 64 % 2 * 64 = 0) => ?_)
    · skip
      refine RQ.seg 4 (pc' := 56) (L' := [some (.int (iI o)), some (.int (iI b)), some (.int (iI p)), some (.int (iI q)), some (.int (iI 0))]) (st' := [.int (iI 2), .int (iI q)]) (g1 := g) rfl ?_
      refine RQ.if2 (a := q) (b := 2) rfl rfl rfl rfl (by omega) (by omega) (fun (h3 : q ≠ 2) => ?_) (fun (h3 : ¬ q ≠ 2) => ?_)
      · skip
        refine RQ.seg 3 (pc' := 69) (L' := [some (.int (iI o)), some (.int (iI b)), some (.int (iI p)), some (.int (iI q)), some (.int (iI 0))]) (st' := [.int (iI b), .int (iI o), .int (iI p)]) (g1 := g) rfl ?_
        refine RQ.call rfl rfl (x_savedIn (by omega) (by omega)) ?_
        refine RQ.seg 1 (pc' := 73) (L' := [some (.int (iI o)), some (.int (iI b)), some (.int (iI p)), some (.int (iI q)), some (.int (iI 0))]) (st' := [.int ((iI p) * (iI (svi o b)))]) (g1 := g) rfl ?_
        refine RQ.to (L' := [some (.int (iI o)), some (.int (iI b)), some (.int (iI p)), some (.int (iI q)), some (.int (iI 0))]) (st' := [.int (iI (p * (svi o b)))]) rfl (by simp only [iI_add, iI_sub, iI_mul, iI_neg]) ?_
        refine RQ.ret rfl rfl ?_
        refine ⟨?_, rfl⟩
        unfold ern; (try unfold fsi); (try unfold bc3); repeat (first | rw [if_pos (by omega)] | rw [if_neg (by omega)])
      · skip
        refine RQ.seg 3 (pc' := 65) (L' := [some (.int (iI o)), some (.int (iI b)), some (.int (iI p)), some (.int (iI q)), some (.int (iI 0))]) (st' := [.int (iI 0)]) (g1 := g) rfl ?_
        refine RQ.ret rfl rfl ?_
        refine ⟨?_, rfl⟩
        unfold ern; (try unfold fsi); (try unfold bc3); repeat (first | rw [if_pos (by omega)] | rw [if_neg (by omega)])
    · skip
      refine RQ.seg 5 (pc' := 56) (L' := [some (.int (iI o)), some (.int (iI b)), some (.int (iI p)), some (.int (iI q)), some (.int (iI 1))]) (st' := [.int (iI 2), .int (iI q)]) (g1 := g) rfl ?_
      refine RQ.if2 (a := q) (b := 2) rfl rfl rfl rfl (by omega) (by omega) (fun (h4 : q ≠ 2) => ?_) (fun (h4 : ¬ q ≠ 2) => ?_)
      · skip
        refine RQ.seg 3 (pc' := 69) (L' := [some (.int (iI o)), some (.int (iI b)), some (.int (iI p)), some (.int (iI q)), some (.int (iI 1))]) (st' := [.int (iI b), .int (iI o), .int (iI p)]) (g1 := g) rfl ?_
        refine RQ.call rfl rfl (x_savedIn (by omega) (by omega)) ?_
        refine RQ.seg 1 (pc' := 73) (L' := [some (.int (iI o)), some (.int (iI b)), some (.int (iI p)), some (.int (iI q)), some (.int (iI 1))]) (st' := [.int ((iI p) * (iI (svi o b)))]) (g1 := g) rfl ?_
        refine RQ.to (L' := [some (.int (iI o)), some (.int (iI b)), some (.int (iI p)), some (.int (iI q)), some (.int (iI 1))]) (st' := [.int (iI (p * (svi o b)))]) rfl (by simp only [iI_add, iI_sub, iI_mul, iI_neg]) ?_
        refine RQ.ret rfl rfl ?_
        refine ⟨?_, rfl⟩
        unfold ern; (try unfold fsi); (try unfold bc3); repeat (first | rw [if_pos (by omega)] | rw [if_neg (by omega)])
      · skip
        refine RQ.seg 5 (pc' := 69) (L' := [some (.int (iI o)), some (.int (iI b)), some (.int (iI p)), some (.int (iI q)), some (.int (iI 1))]) (st' := [.int (iI b), .int (iI o), .int (iI p)]) (g1 := g) rfl ?_
        refine RQ.call rfl rfl (x_savedIn (by omega) (by omega)) ?_
        refine RQ.seg 1 (pc' := 73) (L' := [some (.int (iI o)), some (.int (iI b)), some (.int (iI p)), some (.int (iI q)), some (.int (iI 1))]) (st' := [.int ((iI p) * (iI (svi o b)))]) (g1 := g) rfl ?_
        refine RQ.to (L' := [some (.int (iI o)), some (.int (iI b)), some (.int (iI p)), some (.int (iI q)), some (.int (iI 1))]) (st' := [.int (iI (p * (svi o b)))]) rfl (by simp only [iI_add, iI_sub, iI_mul, iI_neg]) ?_
        refine RQ.ret rfl rfl ?_
        refine ⟨?_, rfl⟩
        unfold ern; (try unfold fsi); (try unfold bc3); repeat (first | rw [if_pos (by omega)] | rw [if_neg (by omega)])
  · skip
    refine RQ.seg 3 (pc' := 9) (L' := [some (.int (iI o)), some (.int (iI b)), some (.int (iI p)), some (.int (iI q)), none]) (st' := [.int (iI 8421504), .int (iI o), .int (iI 3)]) (g1 := g) rfl ?_
    refine RQ.iand8 (a := o) rfl rfl rfl (by omega) ?_
    refine RQ.call rfl rfl (x_bitc (x := o / 128 % 2) (y := o / 32768 % 2) (z := o / 8388608 % 2) (by omega) (by omega) (by omega)) ?_
    refine RQ.seg 3 (pc' := 18) (L' := [some (.int (iI o)), some (.int (iI b)), some (.int (iI p)), some (.int (iI q)), some (.int ((iI 3) - (iI (o / 128 % 2 + o / 32768 % 2 + o / 8388608 % 2))))]) (st' := [.int ((iI 3) - (iI (o / 128 % 2 + o / 32768 % 2 + o / 8388608 % 2)))]) (g1 := g) rfl ?_
    refine RQ.if1 (a := (3 - (o / 128 % 2 + o / 32768 % 2 + o / 8388608 % 2))) rfl rfl (by simp only [iI_add, iI_sub, iI_mul, iI_neg]) (by omega) (fun (h5 : 3 - (o / 128 % 2 + o / 32768 % 2 + o / 8388608 % 2) ≤ 0) => ?_) (fun (h5 : ¬ 3 - (o / 128 % 2 + o / 32768 % 2 + o / 8388608 % 2) ≤ 0) => ?_)
    · skip
      refine RQ.seg 1 (pc' := 34) (L' := [some (.int (iI o)), some (.int (iI b)), some (.int (iI p)), some (.int (iI q)), some (.int ((iI 3) - (iI (o / 128 % 2 + o / 32768 % 2 + o / 8388608 % 2))))]) (st' := [.int (iI 0)]) (g1 := g) rfl ?_
      refine RQ.to (L' := [some (.int (iI o)), some (.int (iI b)), some (.int (iI p)), some (.int (iI q)), some (.int (iI (3 - (o / 128 % 2 + o / 32768 % 2 + o / 8388608 % 2))))]) (st' := [.int (iI 0)]) (by simp only [iI_add, iI_sub, iI_mul, iI_neg]) rfl ?_
      refine RQ.ret rfl rfl ?_
      refine ⟨?_, rfl⟩
      unfold ern; (try unfold fsi); (try unfold bc3); repeat (first | rw [if_pos (by omega)] | rw [if_neg (by omega)])
    · skip
      refine RQ.seg 2 (pc' := 23) (L' := [some (.int (iI o)), some (.int (iI b)), some (.int (iI p)), some (.int (iI q)), some (.int ((iI 3) - (iI (o / 128 % 2 + o / 32768 % 2 + o / 8388608 % 2))))]) (st' := [.int (iI o), .int (iI p)]) (g1 := g) rfl ?_
      refine RQ.to (L' := [some (.int (iI o)), some (.int (iI b)), some (.int (iI p)), some (.int (iI q)), some (.int (iI (3 - (o / 128 % 2 + o / 32768 % 2 + o / 8388608 % 2))))]) (st' := [.int (iI o), .int (iI p)]) (by simp only [iI_add, iI_sub, iI_mul, iI_neg]) rfl ?_
      refine RQ.call rfl rfl (x_alls (by omega)) ?_
      refine RQ.seg 2 (pc' := 29) (L' := [some (.int (iI o)), some (.int (iI b)), some (.int (iI p)), some (.int (iI q)), some (.int (iI (3 - (o / 128 % 2 + o / 32768 % 2 + o / 8388608 % 2))))]) (st' := [.int (iI (3 - (o / 128 % 2 + o / 32768 % 2 + o / 8388608 % 2))), .int ((iI p) * (iI (als o)))]) (g1 := g) rfl ?_
      refine RQ.idiv (a := (p * (als o))) (b := (3 - (o / 128 % 2 + o / 32768 % 2 + o / 8388608 % 2))) rfl (by simp only [iI_add, iI_sub, iI_mul, iI_neg]) rfl (by omega) (by omega) ?_
      refine RQ.seg 1 (pc' := 34) (L' := [some (.int (iI o)), some (.int (iI b)), some (.int (iI p)), some (.int (iI q)), some (.int (iI (3 - (o / 128 % 2 + o / 32768 % 2 + o / 8388608 % 2))))]) (st' := [.int (iI ((p * (als o)) / (3 - (o / 128 % 2 + o / 32768 % 2 + o / 8388608 % 2))))]) (g1 := g) rfl ?_
      refine RQ.ret rfl rfl ?_
      refine ⟨?_, rfl⟩
      unfold ern; (try unfold fsi); (try unfold bc3); repeat (first | rw [if_pos (by omega)] | rw [if_neg (by omega)])
theorem x_gain {K : PK} {d : Nat} {sc : Nat → Int} {ar : Nat → Int → Int} {tx oc : Nat} {rl : Nat → Option Nat} {ou : Nat → Int64} {tl : List PO} {q : Nat × Nat} {o b q0 : Int} (ho : 0 ≤ o ∧ o < 134217728) (hb : 0 ≤ b ∧ b < 3) {l : Int → Int} (hl : ∀ j, 0 ≤ j → j < 4 → ar 32 j = l j) (hL : LwOK l) (rq : 0 ≤ q0 ∧ q0 ≤ 2) : CallR K (d + 3) 47 [.int (iI o), .int (iI b), .ref 32, .int (iI q0)] (HW sc ar tx oc rl ou tl, q) (some (.int (iI (gnx l q0 o b)))) (HW sc ar tx oc rl ou tl, q) := by
  apply CQ.x
  have h0 := hL
  unfold LwOK at h0
  refine CQ.of (own := 4) (n := 4) (ini := false) (rt := (some .int)) (cd := cd47) (by decide +kernel) rfl (by decide +kernel) rfl (Nat.le_of_ble_eq_true rfl) ?_
  refine RQ.seg 2 (pc' := 2) (L' := [some (.int (iI o)), some (.int (iI b)), some (.ref 32), some (.int (iI q0))]) (st' := [.int (iI b), .int (iI o)]) (g1 := (HW sc ar tx oc rl ou tl, q)) rfl ?_
  rcases (show bki o b = 1 ∨ bki o b = 0 by have := bki_r o b; omega) with h1 | h1
  · skip
    refine RQ.call rfl rfl (x_backIn_t (by omega) (by omega) h1) ?_
    refine RQ.seg 3 (pc' := 10) (L' := [some (.int (iI o)), some (.int (iI b)), some (.ref 32), some (.int (iI q0))]) (st' := [.int (iI 1), .ref 32]) (g1 := (HW sc ar tx oc rl ou tl, q)) rfl ?_
    refine RQ.ialdv (z := 1) (v := (l 1)) rfl rfl rfl (by omega) (by decide) (hl 1 (by omega) (by omega)) ?_
    refine RQ.ret rfl rfl ?_
    refine ⟨?_, rfl⟩
    unfold gnx; first | rw [if_pos (by omega)] | rw [if_neg (by omega)]
  · skip
    refine RQ.call rfl rfl (x_backIn_f (by omega) (by omega) h1) ?_
    refine RQ.seg 5 (pc' := 16) (L' := [some (.int (iI o)), some (.int (iI b)), some (.ref 32), some (.int (iI q0))]) (st' := [.int (iI 0), .ref 32, .int (iI b), .int (iI o)]) (g1 := (HW sc ar tx oc rl ou tl, q)) rfl ?_
    refine RQ.ialdv (z := 0) (v := (l 0)) rfl rfl rfl (by omega) (by decide) (hl 0 (by omega) (by omega)) ?_
    refine RQ.seg 1 (pc' := 18) (L' := [some (.int (iI o)), some (.int (iI b)), some (.ref 32), some (.int (iI q0))]) (st' := [.int (iI q0), .int (iI (l 0)), .int (iI b), .int (iI o)]) (g1 := (HW sc ar tx oc rl ou tl, q)) rfl ?_
    refine RQ.call rfl rfl (x_earned (by omega) (by omega) (by omega) (by omega)) ?_
    refine RQ.seg 2 (pc' := 23) (L' := [some (.int (iI o)), some (.int (iI b)), some (.ref 32), some (.int (iI q0))]) (st' := [.int (iI 2), .ref 32, .int (iI (ern (l 0) q0 o b))]) (g1 := (HW sc ar tx oc rl ou tl, q)) rfl ?_
    refine RQ.ialdv (z := 2) (v := (l 2)) rfl rfl rfl (by omega) (by decide) (hl 2 (by omega) (by omega)) ?_
    refine RQ.seg 2 (pc' := 26) (L' := [some (.int (iI o)), some (.int (iI b)), some (.ref 32), some (.int (iI q0))]) (st' := [.int (iI b), .int (iI o), .int (iI (l 2)), .int (iI (ern (l 0) q0 o b))]) (g1 := (HW sc ar tx oc rl ou tl, q)) rfl ?_
    refine RQ.call rfl rfl (x_shakeIn (by omega) (by omega)) ?_
    refine RQ.seg 2 (pc' := 31) (L' := [some (.int (iI o)), some (.int (iI b)), some (.ref 32), some (.int (iI q0))]) (st' := [.int ((iI (ern (l 0) q0 o b)) - ((iI (l 2)) * (iI (ski o b))))]) (g1 := (HW sc ar tx oc rl ou tl, q)) rfl ?_
    refine RQ.to (L' := [some (.int (iI o)), some (.int (iI b)), some (.ref 32), some (.int (iI q0))]) (st' := [.int (iI (ern (l 0) q0 o b - ((l 2) * (ski o b))))]) rfl (by simp only [iI_add, iI_sub, iI_mul, iI_neg]) ?_
    refine RQ.ret rfl rfl ?_
    refine ⟨?_, rfl⟩
    unfold gnx; first | rw [if_pos (by omega)] | rw [if_neg (by omega)]
theorem x_out2 {K : PK} {d : Nat} {sc : Nat → Int} {ar : Nat → Int → Int} {tx oc : Nat} {rl : Nat → Option Nat} {ou : Nat → Int64} {tl : List PO} {q : Nat × Nat} {Q : Option Value → PG → Prop} {S : SV} {pl wi nx sh cl : Int → Int} {nw nb : Int} {W B : Int → Int → Int} (hF : FrOK nw nb W B) (hX : FrX (sc 303) (sc 304) (ar 5) (ar 6) (ar 7) (ar 8) (ar 10) (ar 11) (ar 12) nw nb W B) {P : Int → Int} (hmy : PtOK nw nb W B P) (hwi : ∀ j, 0 ≤ j → j < 3 → wi j = xwi nb B P j) (hsh : ∀ j, 0 ≤ j → j < 3 → sh j = if j < nb then shk nb W B P j else 0) (hS : SOK nw nb S) (hJ : SJ nw nb W B P S) (v : Int) (e3 : Option Value) (hv : 0 ≤ v ∧ v < 65536) (hk : Q (some (.int (iI (v + ocb nb W B P S 2 * 65536)))) (HW (usc sc 5112 (sT S)) (usc (usc (usc (usc (usc (usc (usc (usc (usc (usc (usc ar 52 pl) 53 wi) 54 nx) 55 (sL S)) 56 (sF S)) 57 sh) 58 cl) 59 (sS S)) 60 (sA S)) 61 (sB S)) 62 (sC S)) tx oc rl ou tl, q)) : RQ K (d + 1) 4 false (some .int) cd42 4 [some (.ref 51), some (.int (iI v)), some (.int (iI 2)), e3] [] (HW (usc sc 5112 (sT S)) (usc (usc (usc (usc (usc (usc (usc (usc (usc (usc (usc ar 52 pl) 53 wi) 54 nx) 55 (sL S)) 56 (sF S)) 57 sh) 58 cl) 59 (sS S)) 60 (sA S)) 61 (sB S)) 62 (sC S)) tx oc rl ou tl, q) Q := by
  have hn := hF.1
  have hm1 := hX.1
  have hm2 := hX.2.1
  have hwr := xwi_r hmy hn.1 (j := 2) (by omega)
  have hor := ocb_r hF hmy hS hJ (b := 2) (by omega)
  refine RQ.seg 8 (pc' := 18) (L' := [some (.ref 51), some (.int (iI v)), some (.int (iI 2)), some (.int (iI 128))]) (st' := [.int (iI 2), .ref 53]) (g1 := (HW (usc sc 5112 (sT S)) (usc (usc (usc (usc (usc (usc (usc (usc (usc (usc (usc ar 52 pl) 53 wi) 54 nx) 55 (sL S)) 56 (sF S)) 57 sh) 58 cl) 59 (sS S)) 60 (sA S)) 61 (sB S)) 62 (sC S)) tx oc rl ou tl, q)) rfl ?_
  refine RQ.ialdv (z := 2) (v := (xwi nb B P 2)) rfl rfl rfl (by omega) (by decide) (hwi 2 (by omega) (by omega)) ?_
  refine RQ.seg 1 (pc' := 20) (L' := [some (.ref 51), some (.int (iI v)), some (.int (iI 2)), some (.int (iI 128))]) (st' := [.int (iI (-1)), .int (iI (xwi nb B P 2))]) (g1 := (HW (usc sc 5112 (sT S)) (usc (usc (usc (usc (usc (usc (usc (usc (usc (usc (usc ar 52 pl) 53 wi) 54 nx) 55 (sL S)) 56 (sF S)) 57 sh) 58 cl) 59 (sS S)) 60 (sA S)) 61 (sB S)) 62 (sC S)) tx oc rl ou tl, q)) rfl ?_
  refine RQ.if2 (a := (xwi nb B P 2)) (b := (-1)) rfl rfl rfl rfl (by omega) (by omega) (fun (h1 : xwi nb B P 2 = (-1)) => ?_) (fun (h1 : ¬ xwi nb B P 2 = (-1)) => ?_)
  · skip
    have hoc : ocb nb W B P S 2 = 128 := if_neg (fun z => by have e1 := xwi_t z.1 z.2; have e2 := hmy.w (b := 2) (by omega) z.1 z.2; omega)
    refine RQ.seg 5 (pc' := 67) (L' := [some (.ref 51), some (.int (iI v)), some (.int (iI 2)), some (.int (iI 128))]) (st' := [.int (iI 16), .int (iI 128), .int (iI v)]) (g1 := (HW (usc sc 5112 (sT S)) (usc (usc (usc (usc (usc (usc (usc (usc (usc (usc (usc ar 52 pl) 53 wi) 54 nx) 55 (sL S)) 56 (sF S)) 57 sh) 58 cl) 59 (sS S)) 60 (sA S)) 61 (sB S)) 62 (sC S)) tx oc rl ou tl, q)) rfl ?_
    refine RQ.ishlm (a := 128) (b := 16) (p := 65536) rfl rfl rfl (by decide) (by decide) ?_
    refine RQ.iord 16 (a := v) (c := 128) (p := 65536) rfl rfl rfl (by decide) (by omega) (by omega) ?_
    refine RQ.seg 6 (pc' := 76) (L' := [some (.ref 51), some (.int (iI (v + 128 * 65536))), some (.int (iI 3)), some (.int (iI 128))]) (st' := []) (g1 := (HW (usc sc 5112 (sT S)) (usc (usc (usc (usc (usc (usc (usc (usc (usc (usc (usc ar 52 pl) 53 wi) 54 nx) 55 (sL S)) 56 (sF S)) 57 sh) 58 cl) 59 (sS S)) 60 (sA S)) 61 (sB S)) 62 (sC S)) tx oc rl ou tl, q)) rfl ?_
    have hv2 : v + 128 * 65536 = v + ocb nb W B P S 2 * 65536 := by omega
    rw [hv2]
    refine RQ.seg 1 (pc' := 77) (L' := [some (.ref 51), some (.int (iI (v + ocb nb W B P S 2 * 65536))), some (.int (iI 3)), some (.int (iI 128))]) (st' := [.int (iI (v + ocb nb W B P S 2 * 65536))]) (g1 := (HW (usc sc 5112 (sT S)) (usc (usc (usc (usc (usc (usc (usc (usc (usc (usc (usc ar 52 pl) 53 wi) 54 nx) 55 (sL S)) 56 (sF S)) 57 sh) 58 cl) 59 (sS S)) 60 (sA S)) 61 (sB S)) 62 (sC S)) tx oc rl ou tl, q)) rfl ?_
    refine RQ.ret rfl rfl ?_
    exact hk
  · skip
    obtain ⟨qa, ka, ew⟩ := hwr.2.2.2.2 h1
    clear hwr
    have hpw := hmy.w (b := 2) (by omega) qa ka
    have hs9 := hJ.s9 hF hmy hS (b := 2) (by omega)
    have hsw := hS.1 (P 2 % 10) (by omega) (by omega)
    have hsr := shn_r nb W B P 2 nb.toNat
    have hsk : 0 ≤ shk nb W B P 2 ∧ shk nb W B P 2 ≤ 3 := by unfold shk; omega
    refine RQ.seg 3 (pc' := 28) (L' := [some (.ref 51), some (.int (iI v)), some (.int (iI 2)), some (.int (iI 128))]) (st' := [.int (iI 2), .ref 59]) (g1 := (HW (usc sc 5112 (sT S)) (usc (usc (usc (usc (usc (usc (usc (usc (usc (usc (usc ar 52 pl) 53 wi) 54 nx) 55 (sL S)) 56 (sF S)) 57 sh) 58 cl) 59 (sS S)) 60 (sA S)) 61 (sB S)) 62 (sC S)) tx oc rl ou tl, q)) rfl ?_
    refine RQ.iald (z := 2) rfl rfl rfl (by omega) (by decide) ?_
    refine RQ.seg 3 (pc' := 34) (L' := [some (.ref 51), some (.int (iI v)), some (.int (iI 2)), some (.int (iI 128))]) (st' := [.int (iI 2), .ref 57, .int (iI ((sS S) 2))]) (g1 := (HW (usc sc 5112 (sT S)) (usc (usc (usc (usc (usc (usc (usc (usc (usc (usc (usc ar 52 pl) 53 wi) 54 nx) 55 (sL S)) 56 (sF S)) 57 sh) 58 cl) 59 (sS S)) 60 (sA S)) 61 (sB S)) 62 (sC S)) tx oc rl ou tl, q)) rfl ?_
    refine RQ.ialdv (z := 2) (v := (shk nb W B P 2)) rfl rfl rfl (by omega) (by decide) ((hsh 2 (by omega) (by omega)).trans (if_pos (by omega))) ?_
    refine RQ.seg 1 (pc' := 36) (L' := [some (.ref 51), some (.int (iI v)), some (.int (iI 2)), some (.int (iI 128))]) (st' := [.int (iI 4), .int (iI (shk nb W B P 2)), .int (iI ((sS S) 2))]) (g1 := (HW (usc sc 5112 (sT S)) (usc (usc (usc (usc (usc (usc (usc (usc (usc (usc (usc ar 52 pl) 53 wi) 54 nx) 55 (sL S)) 56 (sF S)) 57 sh) 58 cl) 59 (sS S)) 60 (sA S)) 61 (sB S)) 62 (sC S)) tx oc rl ou tl, q)) rfl ?_
    refine RQ.ishlm (a := (shk nb W B P 2)) (b := 4) (p := 16) rfl rfl rfl (by decide) (by decide) ?_
    refine RQ.iord 4 (a := ((sS S) 2)) (c := (shk nb W B P 2)) (p := 16) rfl rfl rfl (by decide) (by omega) (by omega) ?_
    refine RQ.seg 5 (pc' := 47) (L' := [some (.ref 51), some (.int (iI v)), some (.int (iI 2)), some (.int (iI 128))]) (st' := [.int (iI 2), .ref 53, .ref 56, .int (iI ((sS S) 2 + (shk nb W B P 2) * 16))]) (g1 := (HW (usc sc 5112 (sT S)) (usc (usc (usc (usc (usc (usc (usc (usc (usc (usc (usc ar 52 pl) 53 wi) 54 nx) 55 (sL S)) 56 (sF S)) 57 sh) 58 cl) 59 (sS S)) 60 (sA S)) 61 (sB S)) 62 (sC S)) tx oc rl ou tl, q)) rfl ?_
    refine RQ.ialdv (z := 2) (v := (P 2 % 10)) rfl rfl rfl (by omega) (by decide) ((hwi 2 (by omega) (by omega)).trans ew.1) ?_
    refine RQ.iald (z := (P 2 % 10)) rfl rfl rfl (by omega) (by decide) ?_
    refine RQ.seg 1 (pc' := 50) (L' := [some (.ref 51), some (.int (iI v)), some (.int (iI 2)), some (.int (iI 128))]) (st' := [.int (iI 2), .int (iI ((sF S) (P 2 % 10))), .int (iI ((sS S) 2 + (shk nb W B P 2) * 16))]) (g1 := (HW (usc sc 5112 (sT S)) (usc (usc (usc (usc (usc (usc (usc (usc (usc (usc (usc ar 52 pl) 53 wi) 54 nx) 55 (sL S)) 56 (sF S)) 57 sh) 58 cl) 59 (sS S)) 60 (sA S)) 61 (sB S)) 62 (sC S)) tx oc rl ou tl, q)) rfl ?_
    refine RQ.if2 (a := ((sF S) (P 2 % 10))) (b := 2) rfl rfl rfl rfl (by omega) (by omega) (fun (h2 : (sF S) (P 2 % 10) ≠ 2) => ?_) (fun (h2 : ¬ (sF S) (P 2 % 10) ≠ 2) => ?_)
    · skip
      have hoc : ocb nb W B P S 2 = sS S 2 + shk nb W B P 2 * 16 := by unfold ocb; rw [if_pos ⟨qa, ka⟩, if_neg (by omega)]; omega
      refine RQ.seg 1 (pc' := 59) (L' := [some (.ref 51), some (.int (iI v)), some (.int (iI 2)), some (.int (iI 128))]) (st' := [.int (iI 0), .int (iI ((sS S) 2 + (shk nb W B P 2) * 16))]) (g1 := (HW (usc sc 5112 (sT S)) (usc (usc (usc (usc (usc (usc (usc (usc (usc (usc (usc ar 52 pl) 53 wi) 54 nx) 55 (sL S)) 56 (sF S)) 57 sh) 58 cl) 59 (sS S)) 60 (sA S)) 61 (sB S)) 62 (sC S)) tx oc rl ou tl, q)) rfl ?_
      refine RQ.ior0 (a := ((sS S) 2 + (shk nb W B P 2) * 16)) rfl rfl rfl ?_
      refine RQ.seg 6 (pc' := 67) (L' := [some (.ref 51), some (.int (iI v)), some (.int (iI 2)), some (.int (iI ((sS S) 2 + (shk nb W B P 2) * 16)))]) (st' := [.int (iI 16), .int (iI ((sS S) 2 + (shk nb W B P 2) * 16)), .int (iI v)]) (g1 := (HW (usc sc 5112 (sT S)) (usc (usc (usc (usc (usc (usc (usc (usc (usc (usc (usc ar 52 pl) 53 wi) 54 nx) 55 (sL S)) 56 (sF S)) 57 sh) 58 cl) 59 (sS S)) 60 (sA S)) 61 (sB S)) 62 (sC S)) tx oc rl ou tl, q)) rfl ?_
      refine RQ.ishlm (a := ((sS S) 2 + (shk nb W B P 2) * 16)) (b := 16) (p := 65536) rfl rfl rfl (by decide) (by decide) ?_
      refine RQ.iord 16 (a := v) (c := ((sS S) 2 + (shk nb W B P 2) * 16)) (p := 65536) rfl rfl rfl (by decide) (by omega) (by omega) ?_
      refine RQ.seg 6 (pc' := 76) (L' := [some (.ref 51), some (.int (iI (v + ((sS S) 2 + (shk nb W B P 2) * 16) * 65536))), some (.int (iI 3)), some (.int (iI ((sS S) 2 + (shk nb W B P 2) * 16)))]) (st' := []) (g1 := (HW (usc sc 5112 (sT S)) (usc (usc (usc (usc (usc (usc (usc (usc (usc (usc (usc ar 52 pl) 53 wi) 54 nx) 55 (sL S)) 56 (sF S)) 57 sh) 58 cl) 59 (sS S)) 60 (sA S)) 61 (sB S)) 62 (sC S)) tx oc rl ou tl, q)) rfl ?_
      have hv2 : v + ((sS S) 2 + (shk nb W B P 2) * 16) * 65536 = v + ocb nb W B P S 2 * 65536 := by omega
      rw [hv2]
      refine RQ.seg 1 (pc' := 77) (L' := [some (.ref 51), some (.int (iI (v + ocb nb W B P S 2 * 65536))), some (.int (iI 3)), some (.int (iI ((sS S) 2 + (shk nb W B P 2) * 16)))]) (st' := [.int (iI (v + ocb nb W B P S 2 * 65536))]) (g1 := (HW (usc sc 5112 (sT S)) (usc (usc (usc (usc (usc (usc (usc (usc (usc (usc (usc ar 52 pl) 53 wi) 54 nx) 55 (sL S)) 56 (sF S)) 57 sh) 58 cl) 59 (sS S)) 60 (sA S)) 61 (sB S)) 62 (sC S)) tx oc rl ou tl, q)) rfl ?_
      refine RQ.ret rfl rfl ?_
      exact hk
    · skip
      have hoc : ocb nb W B P S 2 = sS S 2 + shk nb W B P 2 * 16 + 1 * 64 := by unfold ocb; rw [if_pos ⟨qa, ka⟩, if_pos (by omega)]; omega
      refine RQ.seg 2 (pc' := 59) (L' := [some (.ref 51), some (.int (iI v)), some (.int (iI 2)), some (.int (iI 128))]) (st' := [.int (iI 64), .int (iI ((sS S) 2 + (shk nb W B P 2) * 16))]) (g1 := (HW (usc sc 5112 (sT S)) (usc (usc (usc (usc (usc (usc (usc (usc (usc (usc (usc ar 52 pl) 53 wi) 54 nx) 55 (sL S)) 56 (sF S)) 57 sh) 58 cl) 59 (sS S)) 60 (sA S)) 61 (sB S)) 62 (sC S)) tx oc rl ou tl, q)) rfl ?_
      refine RQ.iord 6 (a := ((sS S) 2 + (shk nb W B P 2) * 16)) (c := 1) (p := 64) rfl rfl rfl (by decide) (by omega) (by omega) ?_
      refine RQ.seg 6 (pc' := 67) (L' := [some (.ref 51), some (.int (iI v)), some (.int (iI 2)), some (.int (iI ((sS S) 2 + (shk nb W B P 2) * 16 + 1 * 64)))]) (st' := [.int (iI 16), .int (iI ((sS S) 2 + (shk nb W B P 2) * 16 + 1 * 64)), .int (iI v)]) (g1 := (HW (usc sc 5112 (sT S)) (usc (usc (usc (usc (usc (usc (usc (usc (usc (usc (usc ar 52 pl) 53 wi) 54 nx) 55 (sL S)) 56 (sF S)) 57 sh) 58 cl) 59 (sS S)) 60 (sA S)) 61 (sB S)) 62 (sC S)) tx oc rl ou tl, q)) rfl ?_
      refine RQ.ishlm (a := ((sS S) 2 + (shk nb W B P 2) * 16 + 1 * 64)) (b := 16) (p := 65536) rfl rfl rfl (by decide) (by decide) ?_
      refine RQ.iord 16 (a := v) (c := ((sS S) 2 + (shk nb W B P 2) * 16 + 1 * 64)) (p := 65536) rfl rfl rfl (by decide) (by omega) (by omega) ?_
      refine RQ.seg 6 (pc' := 76) (L' := [some (.ref 51), some (.int (iI (v + ((sS S) 2 + (shk nb W B P 2) * 16 + 1 * 64) * 65536))), some (.int (iI 3)), some (.int (iI ((sS S) 2 + (shk nb W B P 2) * 16 + 1 * 64)))]) (st' := []) (g1 := (HW (usc sc 5112 (sT S)) (usc (usc (usc (usc (usc (usc (usc (usc (usc (usc (usc ar 52 pl) 53 wi) 54 nx) 55 (sL S)) 56 (sF S)) 57 sh) 58 cl) 59 (sS S)) 60 (sA S)) 61 (sB S)) 62 (sC S)) tx oc rl ou tl, q)) rfl ?_
      have hv2 : v + ((sS S) 2 + (shk nb W B P 2) * 16 + 1 * 64) * 65536 = v + ocb nb W B P S 2 * 65536 := by omega
      rw [hv2]
      refine RQ.seg 1 (pc' := 77) (L' := [some (.ref 51), some (.int (iI (v + ocb nb W B P S 2 * 65536))), some (.int (iI 3)), some (.int (iI ((sS S) 2 + (shk nb W B P 2) * 16 + 1 * 64)))]) (st' := [.int (iI (v + ocb nb W B P S 2 * 65536))]) (g1 := (HW (usc sc 5112 (sT S)) (usc (usc (usc (usc (usc (usc (usc (usc (usc (usc (usc ar 52 pl) 53 wi) 54 nx) 55 (sL S)) 56 (sF S)) 57 sh) 58 cl) 59 (sS S)) 60 (sA S)) 61 (sB S)) 62 (sC S)) tx oc rl ou tl, q)) rfl ?_
      refine RQ.ret rfl rfl ?_
      exact hk
theorem x_out1 {K : PK} {d : Nat} {sc : Nat → Int} {ar : Nat → Int → Int} {tx oc : Nat} {rl : Nat → Option Nat} {ou : Nat → Int64} {tl : List PO} {q : Nat × Nat} {Q : Option Value → PG → Prop} {S : SV} {pl wi nx sh cl : Int → Int} {nw nb : Int} {W B : Int → Int → Int} (hF : FrOK nw nb W B) (hX : FrX (sc 303) (sc 304) (ar 5) (ar 6) (ar 7) (ar 8) (ar 10) (ar 11) (ar 12) nw nb W B) {P : Int → Int} (hmy : PtOK nw nb W B P) (hwi : ∀ j, 0 ≤ j → j < 3 → wi j = xwi nb B P j) (hsh : ∀ j, 0 ≤ j → j < 3 → sh j = if j < nb then shk nb W B P j else 0) (hS : SOK nw nb S) (hJ : SJ nw nb W B P S) (v : Int) (e3 : Option Value) (hv : 0 ≤ v ∧ v < 256) (hk : Q (some (.int (iI (v + ocb nb W B P S 1 * 256 + ocb nb W B P S 2 * 65536)))) (HW (usc sc 5112 (sT S)) (usc (usc (usc (usc (usc (usc (usc (usc (usc (usc (usc ar 52 pl) 53 wi) 54 nx) 55 (sL S)) 56 (sF S)) 57 sh) 58 cl) 59 (sS S)) 60 (sA S)) 61 (sB S)) 62 (sC S)) tx oc rl ou tl, q)) : RQ K (d + 1) 4 false (some .int) cd42 4 [some (.ref 51), some (.int (iI v)), some (.int (iI 1)), e3] [] (HW (usc sc 5112 (sT S)) (usc (usc (usc (usc (usc (usc (usc (usc (usc (usc (usc ar 52 pl) 53 wi) 54 nx) 55 (sL S)) 56 (sF S)) 57 sh) 58 cl) 59 (sS S)) 60 (sA S)) 61 (sB S)) 62 (sC S)) tx oc rl ou tl, q) Q := by
  have hn := hF.1
  have hm1 := hX.1
  have hm2 := hX.2.1
  have hwr := xwi_r hmy hn.1 (j := 1) (by omega)
  have hor := ocb_r hF hmy hS hJ (b := 1) (by omega)
  refine RQ.seg 8 (pc' := 18) (L' := [some (.ref 51), some (.int (iI v)), some (.int (iI 1)), some (.int (iI 128))]) (st' := [.int (iI 1), .ref 53]) (g1 := (HW (usc sc 5112 (sT S)) (usc (usc (usc (usc (usc (usc (usc (usc (usc (usc (usc ar 52 pl) 53 wi) 54 nx) 55 (sL S)) 56 (sF S)) 57 sh) 58 cl) 59 (sS S)) 60 (sA S)) 61 (sB S)) 62 (sC S)) tx oc rl ou tl, q)) rfl ?_
  refine RQ.ialdv (z := 1) (v := (xwi nb B P 1)) rfl rfl rfl (by omega) (by decide) (hwi 1 (by omega) (by omega)) ?_
  refine RQ.seg 1 (pc' := 20) (L' := [some (.ref 51), some (.int (iI v)), some (.int (iI 1)), some (.int (iI 128))]) (st' := [.int (iI (-1)), .int (iI (xwi nb B P 1))]) (g1 := (HW (usc sc 5112 (sT S)) (usc (usc (usc (usc (usc (usc (usc (usc (usc (usc (usc ar 52 pl) 53 wi) 54 nx) 55 (sL S)) 56 (sF S)) 57 sh) 58 cl) 59 (sS S)) 60 (sA S)) 61 (sB S)) 62 (sC S)) tx oc rl ou tl, q)) rfl ?_
  refine RQ.if2 (a := (xwi nb B P 1)) (b := (-1)) rfl rfl rfl rfl (by omega) (by omega) (fun (h1 : xwi nb B P 1 = (-1)) => ?_) (fun (h1 : ¬ xwi nb B P 1 = (-1)) => ?_)
  · skip
    have hoc : ocb nb W B P S 1 = 128 := if_neg (fun z => by have e1 := xwi_t z.1 z.2; have e2 := hmy.w (b := 1) (by omega) z.1 z.2; omega)
    refine RQ.seg 5 (pc' := 67) (L' := [some (.ref 51), some (.int (iI v)), some (.int (iI 1)), some (.int (iI 128))]) (st' := [.int (iI 8), .int (iI 128), .int (iI v)]) (g1 := (HW (usc sc 5112 (sT S)) (usc (usc (usc (usc (usc (usc (usc (usc (usc (usc (usc ar 52 pl) 53 wi) 54 nx) 55 (sL S)) 56 (sF S)) 57 sh) 58 cl) 59 (sS S)) 60 (sA S)) 61 (sB S)) 62 (sC S)) tx oc rl ou tl, q)) rfl ?_
    refine RQ.ishlm (a := 128) (b := 8) (p := 256) rfl rfl rfl (by decide) (by decide) ?_
    refine RQ.iord 8 (a := v) (c := 128) (p := 256) rfl rfl rfl (by decide) (by omega) (by omega) ?_
    refine RQ.seg 3 (pc' := 4) (L' := [some (.ref 51), some (.int (iI (v + 128 * 256))), some (.int (iI 2)), some (.int (iI 128))]) (st' := []) (g1 := (HW (usc sc 5112 (sT S)) (usc (usc (usc (usc (usc (usc (usc (usc (usc (usc (usc ar 52 pl) 53 wi) 54 nx) 55 (sL S)) 56 (sF S)) 57 sh) 58 cl) 59 (sS S)) 60 (sA S)) 61 (sB S)) 62 (sC S)) tx oc rl ou tl, q)) rfl ?_
    have hv2 : v + 128 * 256 = v + ocb nb W B P S 1 * 256 := by omega
    rw [hv2]
    exact x_out2 hF hX hmy hwi hsh hS hJ _ _ (by omega) hk
  · skip
    obtain ⟨qa, ka, ew⟩ := hwr.2.2.2.2 h1
    clear hwr
    have hpw := hmy.w (b := 1) (by omega) qa ka
    have hs9 := hJ.s9 hF hmy hS (b := 1) (by omega)
    have hsw := hS.1 (P 1 % 10) (by omega) (by omega)
    have hsr := shn_r nb W B P 1 nb.toNat
    have hsk : 0 ≤ shk nb W B P 1 ∧ shk nb W B P 1 ≤ 3 := by unfold shk; omega
    refine RQ.seg 3 (pc' := 28) (L' := [some (.ref 51), some (.int (iI v)), some (.int (iI 1)), some (.int (iI 128))]) (st' := [.int (iI 1), .ref 59]) (g1 := (HW (usc sc 5112 (sT S)) (usc (usc (usc (usc (usc (usc (usc (usc (usc (usc (usc ar 52 pl) 53 wi) 54 nx) 55 (sL S)) 56 (sF S)) 57 sh) 58 cl) 59 (sS S)) 60 (sA S)) 61 (sB S)) 62 (sC S)) tx oc rl ou tl, q)) rfl ?_
    refine RQ.iald (z := 1) rfl rfl rfl (by omega) (by decide) ?_
    refine RQ.seg 3 (pc' := 34) (L' := [some (.ref 51), some (.int (iI v)), some (.int (iI 1)), some (.int (iI 128))]) (st' := [.int (iI 1), .ref 57, .int (iI ((sS S) 1))]) (g1 := (HW (usc sc 5112 (sT S)) (usc (usc (usc (usc (usc (usc (usc (usc (usc (usc (usc ar 52 pl) 53 wi) 54 nx) 55 (sL S)) 56 (sF S)) 57 sh) 58 cl) 59 (sS S)) 60 (sA S)) 61 (sB S)) 62 (sC S)) tx oc rl ou tl, q)) rfl ?_
    refine RQ.ialdv (z := 1) (v := (shk nb W B P 1)) rfl rfl rfl (by omega) (by decide) ((hsh 1 (by omega) (by omega)).trans (if_pos (by omega))) ?_
    refine RQ.seg 1 (pc' := 36) (L' := [some (.ref 51), some (.int (iI v)), some (.int (iI 1)), some (.int (iI 128))]) (st' := [.int (iI 4), .int (iI (shk nb W B P 1)), .int (iI ((sS S) 1))]) (g1 := (HW (usc sc 5112 (sT S)) (usc (usc (usc (usc (usc (usc (usc (usc (usc (usc (usc ar 52 pl) 53 wi) 54 nx) 55 (sL S)) 56 (sF S)) 57 sh) 58 cl) 59 (sS S)) 60 (sA S)) 61 (sB S)) 62 (sC S)) tx oc rl ou tl, q)) rfl ?_
    refine RQ.ishlm (a := (shk nb W B P 1)) (b := 4) (p := 16) rfl rfl rfl (by decide) (by decide) ?_
    refine RQ.iord 4 (a := ((sS S) 1)) (c := (shk nb W B P 1)) (p := 16) rfl rfl rfl (by decide) (by omega) (by omega) ?_
    refine RQ.seg 5 (pc' := 47) (L' := [some (.ref 51), some (.int (iI v)), some (.int (iI 1)), some (.int (iI 128))]) (st' := [.int (iI 1), .ref 53, .ref 56, .int (iI ((sS S) 1 + (shk nb W B P 1) * 16))]) (g1 := (HW (usc sc 5112 (sT S)) (usc (usc (usc (usc (usc (usc (usc (usc (usc (usc (usc ar 52 pl) 53 wi) 54 nx) 55 (sL S)) 56 (sF S)) 57 sh) 58 cl) 59 (sS S)) 60 (sA S)) 61 (sB S)) 62 (sC S)) tx oc rl ou tl, q)) rfl ?_
    refine RQ.ialdv (z := 1) (v := (P 1 % 10)) rfl rfl rfl (by omega) (by decide) ((hwi 1 (by omega) (by omega)).trans ew.1) ?_
    refine RQ.iald (z := (P 1 % 10)) rfl rfl rfl (by omega) (by decide) ?_
    refine RQ.seg 1 (pc' := 50) (L' := [some (.ref 51), some (.int (iI v)), some (.int (iI 1)), some (.int (iI 128))]) (st' := [.int (iI 1), .int (iI ((sF S) (P 1 % 10))), .int (iI ((sS S) 1 + (shk nb W B P 1) * 16))]) (g1 := (HW (usc sc 5112 (sT S)) (usc (usc (usc (usc (usc (usc (usc (usc (usc (usc (usc ar 52 pl) 53 wi) 54 nx) 55 (sL S)) 56 (sF S)) 57 sh) 58 cl) 59 (sS S)) 60 (sA S)) 61 (sB S)) 62 (sC S)) tx oc rl ou tl, q)) rfl ?_
    refine RQ.if2 (a := ((sF S) (P 1 % 10))) (b := 1) rfl rfl rfl rfl (by omega) (by omega) (fun (h2 : (sF S) (P 1 % 10) ≠ 1) => ?_) (fun (h2 : ¬ (sF S) (P 1 % 10) ≠ 1) => ?_)
    · skip
      have hoc : ocb nb W B P S 1 = sS S 1 + shk nb W B P 1 * 16 := by unfold ocb; rw [if_pos ⟨qa, ka⟩, if_neg (by omega)]; omega
      refine RQ.seg 1 (pc' := 59) (L' := [some (.ref 51), some (.int (iI v)), some (.int (iI 1)), some (.int (iI 128))]) (st' := [.int (iI 0), .int (iI ((sS S) 1 + (shk nb W B P 1) * 16))]) (g1 := (HW (usc sc 5112 (sT S)) (usc (usc (usc (usc (usc (usc (usc (usc (usc (usc (usc ar 52 pl) 53 wi) 54 nx) 55 (sL S)) 56 (sF S)) 57 sh) 58 cl) 59 (sS S)) 60 (sA S)) 61 (sB S)) 62 (sC S)) tx oc rl ou tl, q)) rfl ?_
      refine RQ.ior0 (a := ((sS S) 1 + (shk nb W B P 1) * 16)) rfl rfl rfl ?_
      refine RQ.seg 6 (pc' := 67) (L' := [some (.ref 51), some (.int (iI v)), some (.int (iI 1)), some (.int (iI ((sS S) 1 + (shk nb W B P 1) * 16)))]) (st' := [.int (iI 8), .int (iI ((sS S) 1 + (shk nb W B P 1) * 16)), .int (iI v)]) (g1 := (HW (usc sc 5112 (sT S)) (usc (usc (usc (usc (usc (usc (usc (usc (usc (usc (usc ar 52 pl) 53 wi) 54 nx) 55 (sL S)) 56 (sF S)) 57 sh) 58 cl) 59 (sS S)) 60 (sA S)) 61 (sB S)) 62 (sC S)) tx oc rl ou tl, q)) rfl ?_
      refine RQ.ishlm (a := ((sS S) 1 + (shk nb W B P 1) * 16)) (b := 8) (p := 256) rfl rfl rfl (by decide) (by decide) ?_
      refine RQ.iord 8 (a := v) (c := ((sS S) 1 + (shk nb W B P 1) * 16)) (p := 256) rfl rfl rfl (by decide) (by omega) (by omega) ?_
      refine RQ.seg 3 (pc' := 4) (L' := [some (.ref 51), some (.int (iI (v + ((sS S) 1 + (shk nb W B P 1) * 16) * 256))), some (.int (iI 2)), some (.int (iI ((sS S) 1 + (shk nb W B P 1) * 16)))]) (st' := []) (g1 := (HW (usc sc 5112 (sT S)) (usc (usc (usc (usc (usc (usc (usc (usc (usc (usc (usc ar 52 pl) 53 wi) 54 nx) 55 (sL S)) 56 (sF S)) 57 sh) 58 cl) 59 (sS S)) 60 (sA S)) 61 (sB S)) 62 (sC S)) tx oc rl ou tl, q)) rfl ?_
      have hv2 : v + ((sS S) 1 + (shk nb W B P 1) * 16) * 256 = v + ocb nb W B P S 1 * 256 := by omega
      rw [hv2]
      exact x_out2 hF hX hmy hwi hsh hS hJ _ _ (by omega) hk
    · skip
      have hoc : ocb nb W B P S 1 = sS S 1 + shk nb W B P 1 * 16 + 1 * 64 := by unfold ocb; rw [if_pos ⟨qa, ka⟩, if_pos (by omega)]; omega
      refine RQ.seg 2 (pc' := 59) (L' := [some (.ref 51), some (.int (iI v)), some (.int (iI 1)), some (.int (iI 128))]) (st' := [.int (iI 64), .int (iI ((sS S) 1 + (shk nb W B P 1) * 16))]) (g1 := (HW (usc sc 5112 (sT S)) (usc (usc (usc (usc (usc (usc (usc (usc (usc (usc (usc ar 52 pl) 53 wi) 54 nx) 55 (sL S)) 56 (sF S)) 57 sh) 58 cl) 59 (sS S)) 60 (sA S)) 61 (sB S)) 62 (sC S)) tx oc rl ou tl, q)) rfl ?_
      refine RQ.iord 6 (a := ((sS S) 1 + (shk nb W B P 1) * 16)) (c := 1) (p := 64) rfl rfl rfl (by decide) (by omega) (by omega) ?_
      refine RQ.seg 6 (pc' := 67) (L' := [some (.ref 51), some (.int (iI v)), some (.int (iI 1)), some (.int (iI ((sS S) 1 + (shk nb W B P 1) * 16 + 1 * 64)))]) (st' := [.int (iI 8), .int (iI ((sS S) 1 + (shk nb W B P 1) * 16 + 1 * 64)), .int (iI v)]) (g1 := (HW (usc sc 5112 (sT S)) (usc (usc (usc (usc (usc (usc (usc (usc (usc (usc (usc ar 52 pl) 53 wi) 54 nx) 55 (sL S)) 56 (sF S)) 57 sh) 58 cl) 59 (sS S)) 60 (sA S)) 61 (sB S)) 62 (sC S)) tx oc rl ou tl, q)) rfl ?_
      refine RQ.ishlm (a := ((sS S) 1 + (shk nb W B P 1) * 16 + 1 * 64)) (b := 8) (p := 256) rfl rfl rfl (by decide) (by decide) ?_
      refine RQ.iord 8 (a := v) (c := ((sS S) 1 + (shk nb W B P 1) * 16 + 1 * 64)) (p := 256) rfl rfl rfl (by decide) (by omega) (by omega) ?_
      refine RQ.seg 3 (pc' := 4) (L' := [some (.ref 51), some (.int (iI (v + ((sS S) 1 + (shk nb W B P 1) * 16 + 1 * 64) * 256))), some (.int (iI 2)), some (.int (iI ((sS S) 1 + (shk nb W B P 1) * 16 + 1 * 64)))]) (st' := []) (g1 := (HW (usc sc 5112 (sT S)) (usc (usc (usc (usc (usc (usc (usc (usc (usc (usc (usc ar 52 pl) 53 wi) 54 nx) 55 (sL S)) 56 (sF S)) 57 sh) 58 cl) 59 (sS S)) 60 (sA S)) 61 (sB S)) 62 (sC S)) tx oc rl ou tl, q)) rfl ?_
      have hv2 : v + ((sS S) 1 + (shk nb W B P 1) * 16 + 1 * 64) * 256 = v + ocb nb W B P S 1 * 256 := by omega
      rw [hv2]
      exact x_out2 hF hX hmy hwi hsh hS hJ _ _ (by omega) hk
theorem x_out0 {K : PK} {d : Nat} {sc : Nat → Int} {ar : Nat → Int → Int} {tx oc : Nat} {rl : Nat → Option Nat} {ou : Nat → Int64} {tl : List PO} {q : Nat × Nat} {Q : Option Value → PG → Prop} {S : SV} {pl wi nx sh cl : Int → Int} {nw nb : Int} {W B : Int → Int → Int} (hF : FrOK nw nb W B) (hX : FrX (sc 303) (sc 304) (ar 5) (ar 6) (ar 7) (ar 8) (ar 10) (ar 11) (ar 12) nw nb W B) {P : Int → Int} (hmy : PtOK nw nb W B P) (hwi : ∀ j, 0 ≤ j → j < 3 → wi j = xwi nb B P j) (hsh : ∀ j, 0 ≤ j → j < 3 → sh j = if j < nb then shk nb W B P j else 0) (hS : SOK nw nb S) (hJ : SJ nw nb W B P S) (v : Int) (e3 : Option Value) (hv : 0 ≤ v ∧ v < 1) (hk : Q (some (.int (iI (v + ocb nb W B P S 0 * 1 + ocb nb W B P S 1 * 256 + ocb nb W B P S 2 * 65536)))) (HW (usc sc 5112 (sT S)) (usc (usc (usc (usc (usc (usc (usc (usc (usc (usc (usc ar 52 pl) 53 wi) 54 nx) 55 (sL S)) 56 (sF S)) 57 sh) 58 cl) 59 (sS S)) 60 (sA S)) 61 (sB S)) 62 (sC S)) tx oc rl ou tl, q)) : RQ K (d + 1) 4 false (some .int) cd42 4 [some (.ref 51), some (.int (iI v)), some (.int (iI 0)), e3] [] (HW (usc sc 5112 (sT S)) (usc (usc (usc (usc (usc (usc (usc (usc (usc (usc (usc ar 52 pl) 53 wi) 54 nx) 55 (sL S)) 56 (sF S)) 57 sh) 58 cl) 59 (sS S)) 60 (sA S)) 61 (sB S)) 62 (sC S)) tx oc rl ou tl, q) Q := by
  have hn := hF.1
  have hm1 := hX.1
  have hm2 := hX.2.1
  have hwr := xwi_r hmy hn.1 (j := 0) (by omega)
  have hor := ocb_r hF hmy hS hJ (b := 0) (by omega)
  refine RQ.seg 8 (pc' := 18) (L' := [some (.ref 51), some (.int (iI v)), some (.int (iI 0)), some (.int (iI 128))]) (st' := [.int (iI 0), .ref 53]) (g1 := (HW (usc sc 5112 (sT S)) (usc (usc (usc (usc (usc (usc (usc (usc (usc (usc (usc ar 52 pl) 53 wi) 54 nx) 55 (sL S)) 56 (sF S)) 57 sh) 58 cl) 59 (sS S)) 60 (sA S)) 61 (sB S)) 62 (sC S)) tx oc rl ou tl, q)) rfl ?_
  refine RQ.ialdv (z := 0) (v := (xwi nb B P 0)) rfl rfl rfl (by omega) (by decide) (hwi 0 (by omega) (by omega)) ?_
  refine RQ.seg 1 (pc' := 20) (L' := [some (.ref 51), some (.int (iI v)), some (.int (iI 0)), some (.int (iI 128))]) (st' := [.int (iI (-1)), .int (iI (xwi nb B P 0))]) (g1 := (HW (usc sc 5112 (sT S)) (usc (usc (usc (usc (usc (usc (usc (usc (usc (usc (usc ar 52 pl) 53 wi) 54 nx) 55 (sL S)) 56 (sF S)) 57 sh) 58 cl) 59 (sS S)) 60 (sA S)) 61 (sB S)) 62 (sC S)) tx oc rl ou tl, q)) rfl ?_
  refine RQ.if2 (a := (xwi nb B P 0)) (b := (-1)) rfl rfl rfl rfl (by omega) (by omega) (fun (h1 : xwi nb B P 0 = (-1)) => ?_) (fun (h1 : ¬ xwi nb B P 0 = (-1)) => ?_)
  · skip
    have hoc : ocb nb W B P S 0 = 128 := if_neg (fun z => by have e1 := xwi_t z.1 z.2; have e2 := hmy.w (b := 0) (by omega) z.1 z.2; omega)
    refine RQ.seg 5 (pc' := 67) (L' := [some (.ref 51), some (.int (iI v)), some (.int (iI 0)), some (.int (iI 128))]) (st' := [.int (iI 0), .int (iI 128), .int (iI v)]) (g1 := (HW (usc sc 5112 (sT S)) (usc (usc (usc (usc (usc (usc (usc (usc (usc (usc (usc ar 52 pl) 53 wi) 54 nx) 55 (sL S)) 56 (sF S)) 57 sh) 58 cl) 59 (sS S)) 60 (sA S)) 61 (sB S)) 62 (sC S)) tx oc rl ou tl, q)) rfl ?_
    refine RQ.ishlm (a := 128) (b := 0) (p := 1) rfl rfl rfl (by decide) (by decide) ?_
    refine RQ.iord 0 (a := v) (c := 128) (p := 1) rfl rfl rfl (by decide) (by omega) (by omega) ?_
    refine RQ.seg 3 (pc' := 4) (L' := [some (.ref 51), some (.int (iI (v + 128 * 1))), some (.int (iI 1)), some (.int (iI 128))]) (st' := []) (g1 := (HW (usc sc 5112 (sT S)) (usc (usc (usc (usc (usc (usc (usc (usc (usc (usc (usc ar 52 pl) 53 wi) 54 nx) 55 (sL S)) 56 (sF S)) 57 sh) 58 cl) 59 (sS S)) 60 (sA S)) 61 (sB S)) 62 (sC S)) tx oc rl ou tl, q)) rfl ?_
    have hv2 : v + 128 * 1 = v + ocb nb W B P S 0 * 1 := by omega
    rw [hv2]
    exact x_out1 hF hX hmy hwi hsh hS hJ _ _ (by omega) hk
  · skip
    obtain ⟨qa, ka, ew⟩ := hwr.2.2.2.2 h1
    clear hwr
    have hpw := hmy.w (b := 0) (by omega) qa ka
    have hs9 := hJ.s9 hF hmy hS (b := 0) (by omega)
    have hsw := hS.1 (P 0 % 10) (by omega) (by omega)
    have hsr := shn_r nb W B P 0 nb.toNat
    have hsk : 0 ≤ shk nb W B P 0 ∧ shk nb W B P 0 ≤ 3 := by unfold shk; omega
    refine RQ.seg 3 (pc' := 28) (L' := [some (.ref 51), some (.int (iI v)), some (.int (iI 0)), some (.int (iI 128))]) (st' := [.int (iI 0), .ref 59]) (g1 := (HW (usc sc 5112 (sT S)) (usc (usc (usc (usc (usc (usc (usc (usc (usc (usc (usc ar 52 pl) 53 wi) 54 nx) 55 (sL S)) 56 (sF S)) 57 sh) 58 cl) 59 (sS S)) 60 (sA S)) 61 (sB S)) 62 (sC S)) tx oc rl ou tl, q)) rfl ?_
    refine RQ.iald (z := 0) rfl rfl rfl (by omega) (by decide) ?_
    refine RQ.seg 3 (pc' := 34) (L' := [some (.ref 51), some (.int (iI v)), some (.int (iI 0)), some (.int (iI 128))]) (st' := [.int (iI 0), .ref 57, .int (iI ((sS S) 0))]) (g1 := (HW (usc sc 5112 (sT S)) (usc (usc (usc (usc (usc (usc (usc (usc (usc (usc (usc ar 52 pl) 53 wi) 54 nx) 55 (sL S)) 56 (sF S)) 57 sh) 58 cl) 59 (sS S)) 60 (sA S)) 61 (sB S)) 62 (sC S)) tx oc rl ou tl, q)) rfl ?_
    refine RQ.ialdv (z := 0) (v := (shk nb W B P 0)) rfl rfl rfl (by omega) (by decide) ((hsh 0 (by omega) (by omega)).trans (if_pos (by omega))) ?_
    refine RQ.seg 1 (pc' := 36) (L' := [some (.ref 51), some (.int (iI v)), some (.int (iI 0)), some (.int (iI 128))]) (st' := [.int (iI 4), .int (iI (shk nb W B P 0)), .int (iI ((sS S) 0))]) (g1 := (HW (usc sc 5112 (sT S)) (usc (usc (usc (usc (usc (usc (usc (usc (usc (usc (usc ar 52 pl) 53 wi) 54 nx) 55 (sL S)) 56 (sF S)) 57 sh) 58 cl) 59 (sS S)) 60 (sA S)) 61 (sB S)) 62 (sC S)) tx oc rl ou tl, q)) rfl ?_
    refine RQ.ishlm (a := (shk nb W B P 0)) (b := 4) (p := 16) rfl rfl rfl (by decide) (by decide) ?_
    refine RQ.iord 4 (a := ((sS S) 0)) (c := (shk nb W B P 0)) (p := 16) rfl rfl rfl (by decide) (by omega) (by omega) ?_
    refine RQ.seg 5 (pc' := 47) (L' := [some (.ref 51), some (.int (iI v)), some (.int (iI 0)), some (.int (iI 128))]) (st' := [.int (iI 0), .ref 53, .ref 56, .int (iI ((sS S) 0 + (shk nb W B P 0) * 16))]) (g1 := (HW (usc sc 5112 (sT S)) (usc (usc (usc (usc (usc (usc (usc (usc (usc (usc (usc ar 52 pl) 53 wi) 54 nx) 55 (sL S)) 56 (sF S)) 57 sh) 58 cl) 59 (sS S)) 60 (sA S)) 61 (sB S)) 62 (sC S)) tx oc rl ou tl, q)) rfl ?_
    refine RQ.ialdv (z := 0) (v := (P 0 % 10)) rfl rfl rfl (by omega) (by decide) ((hwi 0 (by omega) (by omega)).trans ew.1) ?_
    refine RQ.iald (z := (P 0 % 10)) rfl rfl rfl (by omega) (by decide) ?_
    refine RQ.seg 1 (pc' := 50) (L' := [some (.ref 51), some (.int (iI v)), some (.int (iI 0)), some (.int (iI 128))]) (st' := [.int (iI 0), .int (iI ((sF S) (P 0 % 10))), .int (iI ((sS S) 0 + (shk nb W B P 0) * 16))]) (g1 := (HW (usc sc 5112 (sT S)) (usc (usc (usc (usc (usc (usc (usc (usc (usc (usc (usc ar 52 pl) 53 wi) 54 nx) 55 (sL S)) 56 (sF S)) 57 sh) 58 cl) 59 (sS S)) 60 (sA S)) 61 (sB S)) 62 (sC S)) tx oc rl ou tl, q)) rfl ?_
    refine RQ.if2 (a := ((sF S) (P 0 % 10))) (b := 0) rfl rfl rfl rfl (by omega) (by omega) (fun (h2 : (sF S) (P 0 % 10) ≠ 0) => ?_) (fun (h2 : ¬ (sF S) (P 0 % 10) ≠ 0) => ?_)
    · skip
      have hoc : ocb nb W B P S 0 = sS S 0 + shk nb W B P 0 * 16 := by unfold ocb; rw [if_pos ⟨qa, ka⟩, if_neg (by omega)]; omega
      refine RQ.seg 1 (pc' := 59) (L' := [some (.ref 51), some (.int (iI v)), some (.int (iI 0)), some (.int (iI 128))]) (st' := [.int (iI 0), .int (iI ((sS S) 0 + (shk nb W B P 0) * 16))]) (g1 := (HW (usc sc 5112 (sT S)) (usc (usc (usc (usc (usc (usc (usc (usc (usc (usc (usc ar 52 pl) 53 wi) 54 nx) 55 (sL S)) 56 (sF S)) 57 sh) 58 cl) 59 (sS S)) 60 (sA S)) 61 (sB S)) 62 (sC S)) tx oc rl ou tl, q)) rfl ?_
      refine RQ.ior0 (a := ((sS S) 0 + (shk nb W B P 0) * 16)) rfl rfl rfl ?_
      refine RQ.seg 6 (pc' := 67) (L' := [some (.ref 51), some (.int (iI v)), some (.int (iI 0)), some (.int (iI ((sS S) 0 + (shk nb W B P 0) * 16)))]) (st' := [.int (iI 0), .int (iI ((sS S) 0 + (shk nb W B P 0) * 16)), .int (iI v)]) (g1 := (HW (usc sc 5112 (sT S)) (usc (usc (usc (usc (usc (usc (usc (usc (usc (usc (usc ar 52 pl) 53 wi) 54 nx) 55 (sL S)) 56 (sF S)) 57 sh) 58 cl) 59 (sS S)) 60 (sA S)) 61 (sB S)) 62 (sC S)) tx oc rl ou tl, q)) rfl ?_
      refine RQ.ishlm (a := ((sS S) 0 + (shk nb W B P 0) * 16)) (b := 0) (p := 1) rfl rfl rfl (by decide) (by decide) ?_
      refine RQ.iord 0 (a := v) (c := ((sS S) 0 + (shk nb W B P 0) * 16)) (p := 1) rfl rfl rfl (by decide) (by omega) (by omega) ?_
      refine RQ.seg 3 (pc' := 4) (L' := [some (.ref 51), some (.int (iI (v + ((sS S) 0 + (shk nb W B P 0) * 16) * 1))), some (.int (iI 1)), some (.int (iI ((sS S) 0 + (shk nb W B P 0) * 16)))]) (st' := []) (g1 := (HW (usc sc 5112 (sT S)) (usc (usc (usc (usc (usc (usc (usc (usc (usc (usc (usc ar 52 pl) 53 wi) 54 nx) 55 (sL S)) 56 (sF S)) 57 sh) 58 cl) 59 (sS S)) 60 (sA S)) 61 (sB S)) 62 (sC S)) tx oc rl ou tl, q)) rfl ?_
      have hv2 : v + ((sS S) 0 + (shk nb W B P 0) * 16) * 1 = v + ocb nb W B P S 0 * 1 := by omega
      rw [hv2]
      exact x_out1 hF hX hmy hwi hsh hS hJ _ _ (by omega) hk
    · skip
      have hoc : ocb nb W B P S 0 = sS S 0 + shk nb W B P 0 * 16 + 1 * 64 := by unfold ocb; rw [if_pos ⟨qa, ka⟩, if_pos (by omega)]; omega
      refine RQ.seg 2 (pc' := 59) (L' := [some (.ref 51), some (.int (iI v)), some (.int (iI 0)), some (.int (iI 128))]) (st' := [.int (iI 64), .int (iI ((sS S) 0 + (shk nb W B P 0) * 16))]) (g1 := (HW (usc sc 5112 (sT S)) (usc (usc (usc (usc (usc (usc (usc (usc (usc (usc (usc ar 52 pl) 53 wi) 54 nx) 55 (sL S)) 56 (sF S)) 57 sh) 58 cl) 59 (sS S)) 60 (sA S)) 61 (sB S)) 62 (sC S)) tx oc rl ou tl, q)) rfl ?_
      refine RQ.iord 6 (a := ((sS S) 0 + (shk nb W B P 0) * 16)) (c := 1) (p := 64) rfl rfl rfl (by decide) (by omega) (by omega) ?_
      refine RQ.seg 6 (pc' := 67) (L' := [some (.ref 51), some (.int (iI v)), some (.int (iI 0)), some (.int (iI ((sS S) 0 + (shk nb W B P 0) * 16 + 1 * 64)))]) (st' := [.int (iI 0), .int (iI ((sS S) 0 + (shk nb W B P 0) * 16 + 1 * 64)), .int (iI v)]) (g1 := (HW (usc sc 5112 (sT S)) (usc (usc (usc (usc (usc (usc (usc (usc (usc (usc (usc ar 52 pl) 53 wi) 54 nx) 55 (sL S)) 56 (sF S)) 57 sh) 58 cl) 59 (sS S)) 60 (sA S)) 61 (sB S)) 62 (sC S)) tx oc rl ou tl, q)) rfl ?_
      refine RQ.ishlm (a := ((sS S) 0 + (shk nb W B P 0) * 16 + 1 * 64)) (b := 0) (p := 1) rfl rfl rfl (by decide) (by decide) ?_
      refine RQ.iord 0 (a := v) (c := ((sS S) 0 + (shk nb W B P 0) * 16 + 1 * 64)) (p := 1) rfl rfl rfl (by decide) (by omega) (by omega) ?_
      refine RQ.seg 3 (pc' := 4) (L' := [some (.ref 51), some (.int (iI (v + ((sS S) 0 + (shk nb W B P 0) * 16 + 1 * 64) * 1))), some (.int (iI 1)), some (.int (iI ((sS S) 0 + (shk nb W B P 0) * 16 + 1 * 64)))]) (st' := []) (g1 := (HW (usc sc 5112 (sT S)) (usc (usc (usc (usc (usc (usc (usc (usc (usc (usc (usc ar 52 pl) 53 wi) 54 nx) 55 (sL S)) 56 (sF S)) 57 sh) 58 cl) 59 (sS S)) 60 (sA S)) 61 (sB S)) 62 (sC S)) tx oc rl ou tl, q)) rfl ?_
      have hv2 : v + ((sS S) 0 + (shk nb W B P 0) * 16 + 1 * 64) * 1 = v + ocb nb W B P S 0 * 1 := by omega
      rw [hv2]
      exact x_out1 hF hX hmy hwi hsh hS hJ _ _ (by omega) hk
theorem x_outcome {K : PK} {d : Nat} {sc : Nat → Int} {ar : Nat → Int → Int} {tx oc : Nat} {rl : Nat → Option Nat} {ou : Nat → Int64} {tl : List PO} {q : Nat × Nat} {S : SV} {pl wi nx sh cl : Int → Int} {nw nb : Int} {W B : Int → Int → Int} (hF : FrOK nw nb W B) (hX : FrX (sc 303) (sc 304) (ar 5) (ar 6) (ar 7) (ar 8) (ar 10) (ar 11) (ar 12) nw nb W B) {P : Int → Int} (hmy : PtOK nw nb W B P) (hwi : ∀ j, 0 ≤ j → j < 3 → wi j = xwi nb B P j) (hsh : ∀ j, 0 ≤ j → j < 3 → sh j = if j < nb then shk nb W B P j else 0) (hS : SOK nw nb S) (hJ : SJ nw nb W B P S) : CallR K (d + 2) 42 [.ref 51] (HW (usc sc 5112 (sT S)) (usc (usc (usc (usc (usc (usc (usc (usc (usc (usc (usc ar 52 pl) 53 wi) 54 nx) 55 (sL S)) 56 (sF S)) 57 sh) 58 cl) 59 (sS S)) 60 (sA S)) 61 (sB S)) 62 (sC S)) tx oc rl ou tl, q) (some (.int (iI (ocv nb W B P S)))) (HW (usc sc 5112 (sT S)) (usc (usc (usc (usc (usc (usc (usc (usc (usc (usc (usc ar 52 pl) 53 wi) 54 nx) 55 (sL S)) 56 (sF S)) 57 sh) 58 cl) 59 (sS S)) 60 (sA S)) 61 (sB S)) 62 (sC S)) tx oc rl ou tl, q) := by
  apply CQ.x
  have hn := hF.1
  have hm1 := hX.1
  have hm2 := hX.2.1
  refine CQ.of (own := 4) (n := 4) (ini := false) (rt := (some .int)) (cd := cd42) (by decide +kernel) rfl (by decide +kernel) rfl (Nat.le_of_ble_eq_true rfl) ?_
  refine RQ.seg 4 (pc' := 4) (L' := [some (.ref 51), some (.int (iI 0)), some (.int (iI 0)), none]) (st' := []) (g1 := (HW (usc sc 5112 (sT S)) (usc (usc (usc (usc (usc (usc (usc (usc (usc (usc (usc ar 52 pl) 53 wi) 54 nx) 55 (sL S)) 56 (sF S)) 57 sh) 58 cl) 59 (sS S)) 60 (sA S)) 61 (sB S)) 62 (sC S)) tx oc rl ou tl, q)) rfl ?_
  exact x_out0 hF hX hmy hwi hsh hS hJ 0 _ (by omega) ⟨by rw [show 0 + ocb nb W B P S 0 * 1 = ocb nb W B P S 0 by omega]; rfl, rfl⟩
