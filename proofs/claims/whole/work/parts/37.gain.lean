section
/-! gains by an outcome are gains by visits -/
variable {nw nb : Int} {W B : Int → Int → Int} {P : Int → Int} {S : SV}
theorem ocb_a (hF : FrOK nw nb W B) (hmy : PtOK nw nb W B P) (hS : SOK nw nb S) (hJ : SJ nw nb W B P S) {b : Int} (hb : 0 ≤ b ∧ b < nb) (hk : bkv nb B P b = 0) : ocb nb W B P S b % 16 = sS S b ∧ ocb nb W B P S b / 128 % 2 = 0 ∧ ocb nb W B P S b / 16 % 4 = shk nb W B P b ∧ ocb nb W B P S b / 64 % 2 = if sF S (P b % 10) = b then 1 else 0 := by
  have h00 := hF.1
  have h1 := hJ.s9 hF hmy hS hb
  have h2 := shn_r nb W B P b nb.toNat
  have h3 : 0 ≤ shk nb W B P b ∧ shk nb W B P b ≤ 3 := by unfold shk; omega
  unfold ocb
  rw [if_pos ⟨hb.2, hk⟩]
  split <;> omega
theorem ocb_n {b : Int} (hk : ¬ (b < nb ∧ bkv nb B P b = 0)) : ocb nb W B P S b = 128 := if_neg hk
theorem pk_bk (hF : FrOK nw nb W B) (hmy : PtOK nw nb W B P) (hS : SOK nw nb S) (hJ : SJ nw nb W B P S) {b r e : Int} (hb : 0 ≤ b ∧ b < nb) (hr : 0 ≤ r ∧ r ≤ 1) (he : 0 ≤ e ∧ e ≤ 1) : bki (pkm (ocv nb W B P S) r e) b = bkv nb B P b := by
  have h00 := hF.1
  have h := ocv_at hF hmy hS hJ (b := b) (by omega) hr he
  have h2 := bkv_r nb B P b
  rw [h.2.1]
  by_cases hk : bkv nb B P b = 0
  · rw [(ocb_a hF hmy hS hJ hb hk).2.1, hk]
  · rw [ocb_n (fun z => hk z.2)]; omega
theorem pk_sv (hF : FrOK nw nb W B) (hmy : PtOK nw nb W B P) (hS : SOK nw nb S) (hJ : SJ nw nb W B P S) {b r e : Int} (hb : 0 ≤ b ∧ b < nb) (hr : 0 ≤ r ∧ r ≤ 1) (he : 0 ≤ e ∧ e ≤ 1) : svi (pkm (ocv nb W B P S) r e) b = sS S b := by
  have h00 := hF.1
  have h := ocv_at hF hmy hS hJ (b := b) (by omega) hr he
  have h2 := bkv_r nb B P b
  rw [h.1]
  by_cases hk : bkv nb B P b = 0
  · exact (ocb_a hF hmy hS hJ hb hk).1
  · rw [ocb_n (fun z => hk z.2), hJ.2.1 b hb.1 hb.2 (by omega)]; rfl
theorem pk_sk (hF : FrOK nw nb W B) (hmy : PtOK nw nb W B P) (hS : SOK nw nb S) (hJ : SJ nw nb W B P S) {b r e : Int} (hb : 0 ≤ b ∧ b < nb) (hr : 0 ≤ r ∧ r ≤ 1) (he : 0 ≤ e ∧ e ≤ 1) : ski (pkm (ocv nb W B P S) r e) b = shk nb W B P b := by
  have h00 := hF.1
  have h := ocv_at hF hmy hS hJ (b := b) (by omega) hr he
  have h2 := bkv_r nb B P b
  rw [h.2.2.1]
  by_cases hk : bkv nb B P b = 0
  · exact (ocb_a hF hmy hS hJ hb hk).2.2.1
  · rw [ocb_n (fun z => hk z.2), shk, shn_b (by omega)]; rfl
theorem pk_sk0 (hF : FrOK nw nb W B) (hmy : PtOK nw nb W B P) (hS : SOK nw nb S) (hJ : SJ nw nb W B P S) {b r e : Int} (hb : nb ≤ b ∧ b < 3) (hr : 0 ≤ r ∧ r ≤ 1) (he : 0 ≤ e ∧ e ≤ 1) : ski (pkm (ocv nb W B P S) r e) b = 0 := by
  have h00 := hF.1
  have h := ocv_at hF hmy hS hJ (b := b) (by omega) hr he
  rw [h.2.2.1, ocb_n (fun z => by omega)]; rfl
theorem pkfs_ (hF : FrOK nw nb W B) (hmy : PtOK nw nb W B P) (hS : SOK nw nb S) (hJ : SJ nw nb W B P S) {b r e : Int} (hb : 0 ≤ b ∧ b < nb) (hk : bkv nb B P b = 0) (hr : 0 ≤ r ∧ r ≤ 1) (he : 0 ≤ e ∧ e ≤ 1) : fsi (pkm (ocv nb W B P S) r e) b = if sF S (P b % 10) = b then 1 else 0 := by
  have h00 := hF.1
  have h := ocv_at hF hmy hS hJ (b := b) (by omega) hr he
  rw [h.2.2.2]
  exact (ocb_a hF hmy hS hJ hb hk).2.2.2
theorem als_b (o : Int) : als o = svi o 0 + svi o 1 + svi o 2 := by
  unfold als svi
  rw [show (2 : Int) ^ (8 * (0 : Int)).toNat = 1 by decide, show (2 : Int) ^ (8 * (1 : Int)).toNat = 256 by decide, show (2 : Int) ^ (8 * (2 : Int)).toNat = 65536 by decide, Int.ediv_one]
theorem bc3_b (o : Int) : bc3 o = bki o 0 + bki o 1 + bki o 2 := by
  unfold bc3 bki
  rw [show (2 : Int) ^ (8 * (0 : Int)).toNat = 1 by decide, show (2 : Int) ^ (8 * (1 : Int)).toNat = 256 by decide, show (2 : Int) ^ (8 * (2 : Int)).toNat = 65536 by decide]
  omega
theorem pk_als (hF : FrOK nw nb W B) (hmy : PtOK nw nb W B P) (hS : SOK nw nb S) (hJ : SJ nw nb W B P S) {r e : Int} (hr : 0 ≤ r ∧ r ≤ 1) (he : 0 ≤ e ∧ e ≤ 1) : als (pkm (ocv nb W B P S) r e) = sT S := by
  have h00 := hF.1
  rw [als_b, hJ.2.2.1, sm3]
  have e0 : ∀ b, 0 ≤ b → b < 3 → svi (pkm (ocv nb W B P S) r e) b = if b < nb then sS S b else 0 := by
    intro b b0 b1
    split
    · next h => exact pk_sv hF hmy hS hJ ⟨b0, h⟩ hr he
    · next h => rw [(ocv_at hF hmy hS hJ (b := b) (by omega) hr he).1, ocb_n (fun z => h z.1)]; rfl
  rw [e0 0 (by omega) (by omega), e0 1 (by omega) (by omega), e0 2 (by omega) (by omega)]
theorem pk_bc3 (hF : FrOK nw nb W B) (hmy : PtOK nw nb W B P) (hS : SOK nw nb S) (hJ : SJ nw nb W B P S) {r e : Int} (hr : 0 ≤ r ∧ r ≤ 1) (he : 0 ≤ e ∧ e ≤ 1) : 3 - bc3 (pkm (ocv nb W B P S) r e) = nb - popc (mkb nb B P) := by
  have h00 := hF.1
  have e0 : ∀ b, 0 ≤ b → b < 3 → bki (pkm (ocv nb W B P S) r e) b = if b < nb then bkv nb B P b else 1 := by
    intro b b0 b1
    split
    · next h => exact pk_bk hF hmy hS hJ ⟨b0, h⟩ hr he
    · next h => rw [(ocv_at hF hmy hS hJ (b := b) (by omega) hr he).2.1, ocb_n (fun z => h z.1)]; rfl
  rw [bc3_b, e0 0 (by omega) (by omega), e0 1 (by omega) (by omega), e0 2 (by omega) (by omega)]
  unfold popc mkb
  rw [mkn_eq nb B P (n := nb.toNat) (by omega)]
  have h0 := bkv_r nb B P 0
  have h1 := bkv_r nb B P 1
  have h2 := bkv_r nb B P 2
  rcases (show nb = 0 ∨ nb = 1 ∨ nb = 2 ∨ nb = 3 by omega) with h | h | h | h
  · rw [if_neg (by omega), if_neg (by omega), if_neg (by omega), if_neg (by omega), if_neg (by omega), if_neg (by omega)]; omega
  · rw [if_pos (by omega), if_neg (by omega), if_neg (by omega), if_pos (by omega), if_neg (by omega), if_neg (by omega)]; omega
  · rw [if_pos (by omega), if_pos (by omega), if_neg (by omega), if_pos (by omega), if_pos (by omega), if_neg (by omega)]; omega
  · rw [if_pos (by omega), if_pos (by omega), if_pos (by omega), if_pos (by omega), if_pos (by omega), if_pos (by omega)]; omega
theorem gw_eq (hF : FrOK nw nb W B) (hJ : SJ nw nb W B P S) {b a : Int} (hb : 0 ≤ b ∧ b < nb) (hk : bkv nb B P b = 0) : ∀ (m : Nat) (w v : Int), 0 ≤ w → w + m ≤ nw → gw a S b m w v = v + (if w ≤ P b % 10 ∧ P b % 10 < w + m then (if sF S (P b % 10) = b then a * sS S b else 0) else 0)
  | 0, w, v, _, _ => by
    rw [if_neg (by omega)]
    show v = v + 0
    omega
  | m + 1, w, v, h0, h1 => by
    rw [gw, gw_eq hF hJ hb hk m (w + 1) _ (by omega) (by omega), hJ.1 b w hb.1 hb.2 h0 (by omega)]
    by_cases e : P b % 10 = w
    · have ea : atw nb B P (sS S) w b = sS S b := if_pos ⟨hk, e⟩
      rw [ea, if_neg (c := w + 1 ≤ P b % 10 ∧ P b % 10 < w + 1 + (m : Int)) (by omega), if_pos (c := w ≤ P b % 10 ∧ P b % 10 < w + ((m + 1 : Nat) : Int)) (by omega), e]
      omega
    · have ea : atw nb B P (sS S) w b = 0 := if_neg (fun z => e z.2)
      rw [ea, Int.mul_zero]
      have : (if sF S w = b then (0 : Int) else 0) = 0 := by split <;> rfl
      rw [this]
      by_cases e2 : w ≤ P b % 10 ∧ P b % 10 < w + (m + 1 : Nat)
      · rw [if_pos e2, if_pos (by omega)]; omega
      · rw [if_neg e2, if_neg (by omega)]; omega
theorem gnx_gnv (hF : FrOK nw nb W B) (hmy : PtOK nw nb W B P) (hS : SOK nw nb S) (hJ : SJ nw nb W B P S) {b r e : Int} (hb : 0 ≤ b ∧ b < nb) (hr : 0 ≤ r ∧ r ≤ 1) (he : 0 ≤ e ∧ e ≤ 1) {law : Int → Int} (hL : LwOK law) : gnx law (law 3) (pkm (ocv nb W B P S) r e) b = gnv nw nb W B P law S b := by
  have h00 := hF.1
  unfold gnx gnv
  rw [pk_bk hF hmy hS hJ hb hr he]
  have hbr := bkv_r nb B P b
  by_cases hk : bkv nb B P b = 1
  · rw [if_pos hk, if_pos hk]
  · rw [if_neg hk, if_neg hk, pk_sk hF hmy hS hJ hb hr he]
    have hk0 : bkv nb B P b = 0 := by omega
    congr 1
    unfold ern gv
    rw [pk_bc3 hF hmy hS hJ hr he, pk_als hF hmy hS hJ hr he, pk_sv hF hmy hS hJ hb hr he, pkfs_ hF hmy hS hJ hb hk0 hr he]
    have hpc := popc_n (B := B) (P := P) (by omega) hb hk0
    obtain ⟨_, _, _, hq⟩ := hL
    rcases (show law 3 = 0 ∨ law 3 = 1 ∨ law 3 = 2 by omega) with h | h | h
    · rw [if_neg (by omega), if_neg (fun z => by omega), if_pos h]
    · rw [if_pos h, if_pos (by omega), if_neg (by omega), if_pos h]
    · have hpw := hmy.w hb.1 hb.2 hk0
      rw [if_neg (by omega), if_neg (c := law 3 = 0) (by omega), if_neg (c := law 3 = 1) (by omega), gw_eq hF hJ hb hk0 nw.toNat 0 0 (by omega) (by omega), if_pos (c := 0 ≤ P b % 10 ∧ P b % 10 < 0 + (nw.toNat : Int)) (by omega), Int.zero_add]
      by_cases hf : sF S (P b % 10) = b
      · rw [if_pos hf, if_pos hf, if_neg (fun z => by omega)]
      · rw [if_neg hf, if_neg hf, if_pos ⟨h, rfl⟩]
theorem gnx_l {law l' : Int → Int} (h0 : law 0 = l' 0) (h1 : law 1 = l' 1) (h2 : law 2 = l' 2) (q o b : Int) : gnx law q o b = gnx l' q o b := by
  unfold gnx
  rw [h0, h1, h2]
theorem gw_c {S' : SV} (h : SEq nw nb S S') {a b : Int} (hb : 0 ≤ b ∧ b < nb) (hn : nw ≤ 4) (hn2 : nb ≤ 3) : ∀ (m : Nat) (w v : Int), 0 ≤ w → w + m ≤ nw → gw a S b m w v = gw a S' b m w v
  | 0, _, _, _, _ => rfl
  | m + 1, w, v, h0, h1 => by
    rw [gw, gw, (h.1 w h0 (by omega)).2, h.2.2.2.1 (3 * w + b) (by omega) (by omega)]
    exact gw_c h hb hn hn2 m _ _ (by omega) (by omega)
theorem gnv_c {S' : SV} (hF : FrOK nw nb W B) (h : SEq nw nb S S') {b : Int} (hb : 0 ≤ b ∧ b < nb) (law : Int → Int) : gnv nw nb W B P law S b = gnv nw nb W B P law S' b := by
  have h00 := hF.1
  unfold gnv gv
  rw [h.2.2.1 b hb.1 hb.2, h.2.1, gw_c h hb (by omega) (by omega) nw.toNat 0 0 (by omega) (by omega)]
/-- visits as they begin, and as they end -/
def sv0 (W : Int → Int → Int) : SV := (fun w => W w 2, fun _ => 0, fun _ => 0, fun _ => -1, 0, fun _ => 0, fun _ => 0, fun _ => 0)
def svn (nb : Int) (W B : Int → Int → Int) (P : Int → Int) : SV := val nb W B P 59 1 (sv0 W)
theorem sv0_in (nw nb : Int) (W : Int → Int → Int) : SIn nw nb W (sv0 W) := ⟨fun _ _ _ => ⟨rfl, rfl⟩, rfl, fun _ _ _ => rfl, fun _ _ _ => rfl⟩
theorem svn_ok (hF : FrOK nw nb W B) (hmy : PtOK nw nb W B P) : SOK nw nb (svn nb W B P) := SOK.al hF hmy 59 1 _ ((sv0_in nw nb W).ok hF)
theorem svn_j (hF : FrOK nw nb W B) (hmy : PtOK nw nb W B P) : SJ nw nb W B P (svn nb W B P) := SJ.al hF hmy 59 1 _ (SJ.in hF (sv0_in nw nb W))
theorem svn_eq (hF : FrOK nw nb W B) (hmy : PtOK nw nb W B P) {S : SV} (hI : SIn nw nb W S) : SEq nw nb (val nb W B P 59 1 S) (svn nb W B P) := SEq.al hF hmy 59 1 _ _ (SEq.in hI (sv0_in nw nb W))
/-- what b gains by a row -/
def gnr (nw nb : Int) (W B : Int → Int → Int) (law P : Int → Int) (b : Int) : Int := gnv nw nb W B P law (svn nb W B P) b
theorem gnr_m (hF : FrOK nw nb W B) (hmy : PtOK nw nb W B P) {S : SV} (hI : SIn nw nb W S) {b : Int} (hb : 0 ≤ b ∧ b < nb) (law : Int → Int) : gnv nw nb W B P law (val nb W B P 59 1 S) b = gnr nw nb W B law P b := gnv_c hF (svn_eq hF hmy hI) hb law
theorem gnr_r (hF : FrOK nw nb W B) (hmy : PtOK nw nb W B P) {law : Int → Int} (hL : LwOK law) {b : Int} (hb : 0 ≤ b ∧ b < nb) : -1000 ≤ gnr nw nb W B law P b ∧ gnr nw nb W B law P b ≤ 4000 := by
  have h00 := hF.1
  have hS := svn_ok hF hmy
  have hJ := svn_j hF hmy
  unfold gnr
  rw [← gnx_gnv (r := 0) (e := 0) hF hmy hS hJ hb (by omega) (by omega) hL]
  generalize hO : pkm (ocv nb W B P (svn nb W B P)) 0 0 = o
  unfold gnx
  have hl := hL
  unfold LwOK at hl
  split
  · omega
  · have h1 := ski_r o b
    have h2 : 0 ≤ law 2 * ski o b ∧ law 2 * ski o b ≤ 99 * 3 := ⟨Int.mul_nonneg (by omega) (by omega), Int.mul_le_mul (by omega) (by omega) (by omega) (by omega)⟩
    have h3 := als_r o
    have h4 : 0 ≤ law 0 * als o ∧ law 0 * als o ≤ 99 * 36 := by
      have : als o = sT (svn nb W B P) := by rw [← hO]; exact pk_als hF hmy hS hJ (by omega) (by omega)
      have h5 := hS.2.1
      have h6 := lsm_nn hS
      exact ⟨Int.mul_nonneg (by omega) (by omega), Int.mul_le_mul (by omega) (by omega) (by omega) (by omega)⟩
    have h5 := svi_r o b
    have h6 : 0 ≤ law 0 * svi o b ∧ law 0 * svi o b ≤ 99 * 15 := ⟨Int.mul_nonneg (by omega) (by omega), Int.mul_le_mul (by omega) (by omega) (by omega) (by omega)⟩
    unfold ern
    split
    · split
      · next h =>
        have h7 := Int.ediv_nonneg (a := law 0 * als o) (b := 3 - bc3 o) (by omega) (by omega)
        have h8 := Int.ediv_le_self (a := law 0 * als o) (3 - bc3 o) (by omega)
        omega
      · omega
    · split <;> omega
end
