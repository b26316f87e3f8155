/-! feed of both sides, by wip/tools -/
/-! bytes: the tape of both sides -/
def sgb (b : Int) : Int := if b < 128 then b else b - 256
theorem i8_z (a : Int) : (iI a).toInt8.toInt32 = iI (sgb (a % 256)) := by
  apply Int32.toInt_inj.mp
  have h1 : -2147483648 ≤ sgb (a % 256) ∧ sgb (a % 256) < 2147483648 := by unfold sgb; split <;> omega
  rw [Int8.toInt_toInt32, iI_toInt h1]
  unfold iI
  rw [Int32.toInt8_ofInt, Int8.toInt_ofInt]
  show Int.bmod a 256 = _
  rw [Int.bmod_def]
  unfold sgb
  split <;> split <;> omega
theorem sgb_m {b : Int} (h : 0 ≤ b ∧ b < 256) : sgb b % 256 = b := by unfold sgb; split <;> omega
theorem ushr_g {a k : Int} (hk : 0 ≤ k ∧ k < 32) : ((iI a).toUInt32 >>> ((iI k).toUInt32 &&& Int32.toUInt32 31)).toInt32 = iI (a % 4294967296 / 2 ^ k.toNat) := by
  have h2 : (iI k).toUInt32 &&& Int32.toUInt32 31 = UInt32.ofNat k.toNat := by
    obtain ⟨n, rfl⟩ := Int.eq_ofNat_of_zero_le hk.1
    have : ∀ m : Nat, m < 32 → (iI (m : Int)).toUInt32 &&& Int32.toUInt32 31 = UInt32.ofNat m := by decide
    exact this n (by omega)
  rw [h2]
  have hb : (iI a).toUInt32.toNat = (a % 4294967296).toNat := by
    show (BitVec.ofInt 32 a).toNat = _
    rw [BitVec.toNat_ofInt]
    rfl
  have hc : ((a % 4294967296).toNat : Int) = a % 4294967296 := by omega
  have hd : (a % 4294967296).toNat < 4294967296 := by omega
  generalize (a % 4294967296).toNat = b at hb hc hd
  rw [← hc]
  apply Int32.toBitVec_inj.mp
  apply BitVec.eq_of_toNat_eq
  show ((iI a).toUInt32 >>> UInt32.ofNat k.toNat).toNat = (BitVec.ofInt 32 _).toNat
  rw [UInt32.toNat_shiftRight, hb, UInt32.toNat_ofNat', show ((b : Int) / 2 ^ k.toNat) = ((b / 2 ^ k.toNat : Nat) : Int) by simp, BitVec.ofInt_natCast, BitVec.toNat_ofNat, Nat.shiftRight_eq_div_pow]
  rw [show k.toNat % 2 ^ 32 % 32 = k.toNat by omega]
  have h9 : b / 2 ^ k.toNat ≤ b := Nat.div_le_self _ _
  exact (Nat.mod_eq_of_lt (by omega)).symm
section RQByte
variable {K : PK} {d own : Nat} {ini : Bool} {rt : Option FieldType} {cd : PC} {pc : Nat} {L : PL} {st : List Value} {g : PG} {Q : Option Value → PG → Prop}
theorem RQ.iushrg {len : Nat} {a b p : Int} {x y : Int32} (hf : pfetch cd pc = some (.iushr, len)) (hx : x = iI a) (hy : y = iI b) (hb : 0 ≤ b ∧ b < 32) (hp : 2 ^ b.toNat = p) (c : RQ K d own ini rt cd (pc + 1) L (.int (iI (a % 4294967296 / p)) :: st) g Q) : RQ K d own ini rt cd pc L (.int y :: .int x :: st) g Q := by
  subst hx hy hp
  refine RQ.step hf (S := (pc + 1, L, .int (((iI a).toUInt32 >>> ((iI b).toUInt32 &&& Int32.toUInt32 31)).toInt32) :: st, g)) rfl ?_
  rw [ushr_g hb]
  exact c
theorem RQ.i2b {len : Nat} {a : Int} {x : Int32} (hf : pfetch cd pc = some (.i2b, len)) (hx : x = iI a) (c : RQ K d own ini rt cd (pc + 1) L (.int (iI (sgb (a % 256))) :: st) g Q) : RQ K d own ini rt cd pc L (.int x :: st) g Q := by
  subst hx
  refine RQ.step hf (S := (pc + 1, L, .int (iI a).toInt8.toInt32 :: st, g)) rfl ?_
  rw [i8_z]
  exact c
end RQByte
def stp1 (l : List Int) (b : Int) : List Int := if b = 0 then l else l ++ [b]
def nz1 (b : Int) : Int := if b = 0 then 0 else 1
def apw (l : List Int) (a : Int) : List Int := stp1 (stp1 (stp1 (stp1 l (a / 16777216 % 256)) (a / 65536 % 256)) (a / 256 % 256)) (a / 1 % 256)
def cnt (a : Int) : Int := nz1 (a / 16777216 % 256) + nz1 (a / 65536 % 256) + nz1 (a / 256 % 256) + nz1 (a / 1 % 256)
theorem stp1_len (l : List Int) (b : Int) : ((stp1 l b).length : Int) = l.length + nz1 b := by
  unfold stp1 nz1
  split
  · omega
  · rw [List.length_append, List.length_singleton]; omega
theorem nz1_r (b : Int) : 0 ≤ nz1 b ∧ nz1 b ≤ 1 := by unfold nz1; split <;> omega
theorem apw_len (l : List Int) (a : Int) : ((apw l a).length : Int) = l.length + cnt a := by
  unfold apw cnt
  rw [stp1_len, stp1_len, stp1_len, stp1_len]
  omega
theorem cnt_r (a : Int) : 0 ≤ cnt a ∧ cnt a ≤ 4 := by
  have h1 := nz1_r (a / 16777216 % 256)
  have h2 := nz1_r (a / 65536 % 256)
  have h3 := nz1_r (a / 256 % 256)
  have h4 := nz1_r (a / 1 % 256)
  unfold cnt
  omega
/-- a list as an array holds it, by g -/
def LAt (g : Int → Int) (f : Int → Int) (l : List Int) : Prop := ∀ k, 0 ≤ k → k < (l.length : Int) → f k = g (lat l k)
theorem LAt.ap {g f : Int → Int} {l : List Int} {b v : Int} (h : LAt g f l) (hb : b ≠ 0) (hv : v = g b) : LAt g (usz f (l.length : Int) v) (stp1 l b) := by
  unfold stp1
  rw [if_neg hb]
  intro k k0 k1
  rw [List.length_append, List.length_singleton] at k1
  by_cases e : k = (l.length : Int)
  · subst e; rw [usz_s, lat_e]; exact hv
  · rw [usz_n e, lat_l (by omega)]; exact h k k0 (by omega)
theorem stp1_0 {l : List Int} {b : Int} (hb : b = 0) : stp1 l b = l := if_pos hb
theorem stp1_n {l : List Int} {b : Int} (hb : b ≠ 0) : ((stp1 l b).length : Int) = (l.length : Int) + 1 := by rw [stp1_len]; unfold nz1; rw [if_neg hb]
def TpOK (l : List Int) : Prop := l.length ≤ 160 ∧ ∀ k, 0 ≤ k → k < (l.length : Int) → 1 ≤ lat l k ∧ lat l k ≤ 255
theorem stp1_ok {l : List Int} {b : Int} (hb : 0 ≤ b ∧ b < 256) (h : ∀ k, 0 ≤ k → k < (l.length : Int) → 1 ≤ lat l k ∧ lat l k ≤ 255) : ∀ k, 0 ≤ k → k < ((stp1 l b).length : Int) → 1 ≤ lat (stp1 l b) k ∧ lat (stp1 l b) k ≤ 255 := by
  unfold stp1
  by_cases e0 : b = 0
  · rw [if_pos e0]; exact h
  · rw [if_neg e0]
    intro k k0 k1
    rw [List.length_append, List.length_singleton] at k1
    by_cases e : k = (l.length : Int)
    · subst e; rw [lat_e]; omega
    · rw [lat_l (by omega)]; exact h k k0 (by omega)
theorem apw_ok {l : List Int} {a : Int} (h : ∀ k, 0 ≤ k → k < (l.length : Int) → 1 ≤ lat l k ∧ lat l k ≤ 255) : ∀ k, 0 ≤ k → k < ((apw l a).length : Int) → 1 ≤ lat (apw l a) k ∧ lat (apw l a) k ≤ 255 := by
  unfold apw
  exact stp1_ok (by omega) (stp1_ok (by omega) (stp1_ok (by omega) (stp1_ok (by omega) h)))
def fdl (l : List Int) (a b c d e : Int) : List Int := if l.length + (cnt a + cnt b + cnt c + cnt d + cnt e) ≤ 160 then apw (apw (apw (apw (apw l a) b) c) d) e else l
def sFeed (l : List Int) (a b c d e : Int) : Int := if l.length + (cnt a + cnt b + cnt c + cnt d + cnt e) ≤ 160 then ((fdl l a b c d e).length : Int) else -1
theorem fdl_ok {l : List Int} (a b c d e : Int) (h : TpOK l) : TpOK (fdl l a b c d e) := by
  unfold fdl
  split
  · rename_i hc
    refine ⟨?_, apw_ok (apw_ok (apw_ok (apw_ok (apw_ok h.2))))⟩
    have h1 := apw_len (apw (apw (apw (apw l a) b) c) d) e
    have h2 := apw_len (apw (apw (apw l a) b) c) d
    have h3 := apw_len (apw (apw l a) b) c
    have h4 := apw_len (apw l a) b
    have h5 := apw_len l a
    omega
  · exact h
theorem byt_u (a p : Int) : True := trivial
theorem x_signs {K : PK} {d : Nat} {g : PG} {a : Int} (ra : -2147483648 ≤ a ∧ a < 2147483648) : CallR K (d + 1) 102 [.int (iI a)] g (some (.int (iI (cnt a)))) g := by
  apply CQ.x
  refine CQ.of (own := 9) (n := 3) (ini := false) (rt := (some .int)) (cd := cd102) (by decide +kernel) rfl (by decide +kernel) rfl (Nat.le_of_ble_eq_true rfl) ?_
  refine RQ.seg 8 (pc' := 11) (L' := [some (.int (iI a)), some (.int (iI 0)), some (.int (iI 24))]) (st' := [.int (iI 24), .int (iI a)]) (g1 := g) rfl ?_
  refine RQ.iushrg (a := a) (b := 24) (p := 16777216) rfl rfl rfl (by decide) (by decide) ?_
  refine RQ.seg 1 (pc' := 15) (L' := [some (.int (iI a)), some (.int (iI 0)), some (.int (iI 24))]) (st' := [.int (iI 255), .int (iI (a % 4294967296 / 16777216))]) (g1 := g) rfl ?_
  refine RQ.iandm 8 (a := a % 4294967296 / 16777216) (m := 255) (p := 256) rfl rfl rfl (by decide) (by decide) (by decide) ?_
  rw [show a % 4294967296 / 16777216 % 256 = a / 16777216 % 256 by omega]
  refine RQ.if1 (a := (a / 16777216 % 256)) rfl rfl rfl (by omega) (fun (h1 : a / 16777216 % 256 = 0) => ?_) (fun (h1 : ¬ a / 16777216 % 256 = 0) => ?_)
  · skip
    refine RQ.seg 6 (pc' := 11) (L' := [some (.int (iI a)), some (.int (iI 0)), some (.int (iI 16))]) (st' := [.int (iI 16), .int (iI a)]) (g1 := g) rfl ?_
    refine RQ.iushrg (a := a) (b := 16) (p := 65536) rfl rfl rfl (by decide) (by decide) ?_
    refine RQ.seg 1 (pc' := 15) (L' := [some (.int (iI a)), some (.int (iI 0)), some (.int (iI 16))]) (st' := [.int (iI 255), .int (iI (a % 4294967296 / 65536))]) (g1 := g) rfl ?_
    refine RQ.iandm 8 (a := a % 4294967296 / 65536) (m := 255) (p := 256) rfl rfl rfl (by decide) (by decide) (by decide) ?_
    rw [show a % 4294967296 / 65536 % 256 = a / 65536 % 256 by omega]
    refine RQ.if1 (a := (a / 65536 % 256)) rfl rfl rfl (by omega) (fun (h2 : a / 65536 % 256 = 0) => ?_) (fun (h2 : ¬ a / 65536 % 256 = 0) => ?_)
    · skip
      refine RQ.seg 6 (pc' := 11) (L' := [some (.int (iI a)), some (.int (iI 0)), some (.int (iI 8))]) (st' := [.int (iI 8), .int (iI a)]) (g1 := g) rfl ?_
      refine RQ.iushrg (a := a) (b := 8) (p := 256) rfl rfl rfl (by decide) (by decide) ?_
      refine RQ.seg 1 (pc' := 15) (L' := [some (.int (iI a)), some (.int (iI 0)), some (.int (iI 8))]) (st' := [.int (iI 255), .int (iI (a % 4294967296 / 256))]) (g1 := g) rfl ?_
      refine RQ.iandm 8 (a := a % 4294967296 / 256) (m := 255) (p := 256) rfl rfl rfl (by decide) (by decide) (by decide) ?_
      rw [show a % 4294967296 / 256 % 256 = a / 256 % 256 by omega]
      refine RQ.if1 (a := (a / 256 % 256)) rfl rfl rfl (by omega) (fun (h3 : a / 256 % 256 = 0) => ?_) (fun (h3 : ¬ a / 256 % 256 = 0) => ?_)
      · skip
        refine RQ.seg 6 (pc' := 11) (L' := [some (.int (iI a)), some (.int (iI 0)), some (.int (iI 0))]) (st' := [.int (iI 0), .int (iI a)]) (g1 := g) rfl ?_
        refine RQ.iushrg (a := a) (b := 0) (p := 1) rfl rfl rfl (by decide) (by decide) ?_
        refine RQ.seg 1 (pc' := 15) (L' := [some (.int (iI a)), some (.int (iI 0)), some (.int (iI 0))]) (st' := [.int (iI 255), .int (iI (a % 4294967296 / 1))]) (g1 := g) rfl ?_
        refine RQ.iandm 8 (a := a % 4294967296 / 1) (m := 255) (p := 256) rfl rfl rfl (by decide) (by decide) (by decide) ?_
        rw [show a % 4294967296 / 1 % 256 = a / 1 % 256 by omega]
        refine RQ.if1 (a := (a / 1 % 256)) rfl rfl rfl (by omega) (fun (h4 : a / 1 % 256 = 0) => ?_) (fun (h4 : ¬ a / 1 % 256 = 0) => ?_)
        · skip
          refine RQ.seg 5 (pc' := 29) (L' := [some (.int (iI a)), some (.int (iI 0)), some (.int (iI (-8)))]) (st' := [.int (iI 0)]) (g1 := g) rfl ?_
          refine RQ.ret rfl rfl ?_
          exact ⟨by congr 3; unfold cnt nz1; (repeat (first | rw [if_pos (by omega)] | rw [if_neg (by omega)])); omega, rfl⟩
        · skip
          refine RQ.seg 6 (pc' := 29) (L' := [some (.int (iI a)), some (.int (iI 1)), some (.int (iI (-8)))]) (st' := [.int (iI 1)]) (g1 := g) rfl ?_
          refine RQ.ret rfl rfl ?_
          exact ⟨by congr 3; unfold cnt nz1; (repeat (first | rw [if_pos (by omega)] | rw [if_neg (by omega)])); omega, rfl⟩
      · skip
        refine RQ.seg 7 (pc' := 11) (L' := [some (.int (iI a)), some (.int (iI 1)), some (.int (iI 0))]) (st' := [.int (iI 0), .int (iI a)]) (g1 := g) rfl ?_
        refine RQ.iushrg (a := a) (b := 0) (p := 1) rfl rfl rfl (by decide) (by decide) ?_
        refine RQ.seg 1 (pc' := 15) (L' := [some (.int (iI a)), some (.int (iI 1)), some (.int (iI 0))]) (st' := [.int (iI 255), .int (iI (a % 4294967296 / 1))]) (g1 := g) rfl ?_
        refine RQ.iandm 8 (a := a % 4294967296 / 1) (m := 255) (p := 256) rfl rfl rfl (by decide) (by decide) (by decide) ?_
        rw [show a % 4294967296 / 1 % 256 = a / 1 % 256 by omega]
        refine RQ.if1 (a := (a / 1 % 256)) rfl rfl rfl (by omega) (fun (h5 : a / 1 % 256 = 0) => ?_) (fun (h5 : ¬ a / 1 % 256 = 0) => ?_)
        · skip
          refine RQ.seg 5 (pc' := 29) (L' := [some (.int (iI a)), some (.int (iI 1)), some (.int (iI (-8)))]) (st' := [.int (iI 1)]) (g1 := g) rfl ?_
          refine RQ.ret rfl rfl ?_
          exact ⟨by congr 3; unfold cnt nz1; (repeat (first | rw [if_pos (by omega)] | rw [if_neg (by omega)])); omega, rfl⟩
        · skip
          refine RQ.seg 6 (pc' := 29) (L' := [some (.int (iI a)), some (.int (iI 2)), some (.int (iI (-8)))]) (st' := [.int (iI 2)]) (g1 := g) rfl ?_
          refine RQ.ret rfl rfl ?_
          exact ⟨by congr 3; unfold cnt nz1; (repeat (first | rw [if_pos (by omega)] | rw [if_neg (by omega)])); omega, rfl⟩
    · skip
      refine RQ.seg 7 (pc' := 11) (L' := [some (.int (iI a)), some (.int (iI 1)), some (.int (iI 8))]) (st' := [.int (iI 8), .int (iI a)]) (g1 := g) rfl ?_
      refine RQ.iushrg (a := a) (b := 8) (p := 256) rfl rfl rfl (by decide) (by decide) ?_
      refine RQ.seg 1 (pc' := 15) (L' := [some (.int (iI a)), some (.int (iI 1)), some (.int (iI 8))]) (st' := [.int (iI 255), .int (iI (a % 4294967296 / 256))]) (g1 := g) rfl ?_
      refine RQ.iandm 8 (a := a % 4294967296 / 256) (m := 255) (p := 256) rfl rfl rfl (by decide) (by decide) (by decide) ?_
      rw [show a % 4294967296 / 256 % 256 = a / 256 % 256 by omega]
      refine RQ.if1 (a := (a / 256 % 256)) rfl rfl rfl (by omega) (fun (h6 : a / 256 % 256 = 0) => ?_) (fun (h6 : ¬ a / 256 % 256 = 0) => ?_)
      · skip
        refine RQ.seg 6 (pc' := 11) (L' := [some (.int (iI a)), some (.int (iI 1)), some (.int (iI 0))]) (st' := [.int (iI 0), .int (iI a)]) (g1 := g) rfl ?_
        refine RQ.iushrg (a := a) (b := 0) (p := 1) rfl rfl rfl (by decide) (by decide) ?_
        refine RQ.seg 1 (pc' := 15) (L' := [some (.int (iI a)), some (.int (iI 1)), some (.int (iI 0))]) (st' := [.int (iI 255), .int (iI (a % 4294967296 / 1))]) (g1 := g) rfl ?_
        refine RQ.iandm 8 (a := a % 4294967296 / 1) (m := 255) (p := 256) rfl rfl rfl (by decide) (by decide) (by decide) ?_
        rw [show a % 4294967296 / 1 % 256 = a / 1 % 256 by omega]
        refine RQ.if1 (a := (a / 1 % 256)) rfl rfl rfl (by omega) (fun (h7 : a / 1 % 256 = 0) => ?_) (fun (h7 : ¬ a / 1 % 256 = 0) => ?_)
        · skip
          refine RQ.seg 5 (pc' := 29) (L' := [some (.int (iI a)), some (.int (iI 1)), some (.int (iI (-8)))]) (st' := [.int (iI 1)]) (g1 := g) rfl ?_
          refine RQ.ret rfl rfl ?_
          exact ⟨by congr 3; unfold cnt nz1; (repeat (first | rw [if_pos (by omega)] | rw [if_neg (by omega)])); omega, rfl⟩
        · skip
          refine RQ.seg 6 (pc' := 29) (L' := [some (.int (iI a)), some (.int (iI 2)), some (.int (iI (-8)))]) (st' := [.int (iI 2)]) (g1 := g) rfl ?_
          refine RQ.ret rfl rfl ?_
          exact ⟨by congr 3; unfold cnt nz1; (repeat (first | rw [if_pos (by omega)] | rw [if_neg (by omega)])); omega, rfl⟩
      · skip
        refine RQ.seg 7 (pc' := 11) (L' := [some (.int (iI a)), some (.int (iI 2)), some (.int (iI 0))]) (st' := [.int (iI 0), .int (iI a)]) (g1 := g) rfl ?_
        refine RQ.iushrg (a := a) (b := 0) (p := 1) rfl rfl rfl (by decide) (by decide) ?_
        refine RQ.seg 1 (pc' := 15) (L' := [some (.int (iI a)), some (.int (iI 2)), some (.int (iI 0))]) (st' := [.int (iI 255), .int (iI (a % 4294967296 / 1))]) (g1 := g) rfl ?_
        refine RQ.iandm 8 (a := a % 4294967296 / 1) (m := 255) (p := 256) rfl rfl rfl (by decide) (by decide) (by decide) ?_
        rw [show a % 4294967296 / 1 % 256 = a / 1 % 256 by omega]
        refine RQ.if1 (a := (a / 1 % 256)) rfl rfl rfl (by omega) (fun (h8 : a / 1 % 256 = 0) => ?_) (fun (h8 : ¬ a / 1 % 256 = 0) => ?_)
        · skip
          refine RQ.seg 5 (pc' := 29) (L' := [some (.int (iI a)), some (.int (iI 2)), some (.int (iI (-8)))]) (st' := [.int (iI 2)]) (g1 := g) rfl ?_
          refine RQ.ret rfl rfl ?_
          exact ⟨by congr 3; unfold cnt nz1; (repeat (first | rw [if_pos (by omega)] | rw [if_neg (by omega)])); omega, rfl⟩
        · skip
          refine RQ.seg 6 (pc' := 29) (L' := [some (.int (iI a)), some (.int (iI 3)), some (.int (iI (-8)))]) (st' := [.int (iI 3)]) (g1 := g) rfl ?_
          refine RQ.ret rfl rfl ?_
          exact ⟨by congr 3; unfold cnt nz1; (repeat (first | rw [if_pos (by omega)] | rw [if_neg (by omega)])); omega, rfl⟩
  · skip
    refine RQ.seg 7 (pc' := 11) (L' := [some (.int (iI a)), some (.int (iI 1)), some (.int (iI 16))]) (st' := [.int (iI 16), .int (iI a)]) (g1 := g) rfl ?_
    refine RQ.iushrg (a := a) (b := 16) (p := 65536) rfl rfl rfl (by decide) (by decide) ?_
    refine RQ.seg 1 (pc' := 15) (L' := [some (.int (iI a)), some (.int (iI 1)), some (.int (iI 16))]) (st' := [.int (iI 255), .int (iI (a % 4294967296 / 65536))]) (g1 := g) rfl ?_
    refine RQ.iandm 8 (a := a % 4294967296 / 65536) (m := 255) (p := 256) rfl rfl rfl (by decide) (by decide) (by decide) ?_
    rw [show a % 4294967296 / 65536 % 256 = a / 65536 % 256 by omega]
    refine RQ.if1 (a := (a / 65536 % 256)) rfl rfl rfl (by omega) (fun (h9 : a / 65536 % 256 = 0) => ?_) (fun (h9 : ¬ a / 65536 % 256 = 0) => ?_)
    · skip
      refine RQ.seg 6 (pc' := 11) (L' := [some (.int (iI a)), some (.int (iI 1)), some (.int (iI 8))]) (st' := [.int (iI 8), .int (iI a)]) (g1 := g) rfl ?_
      refine RQ.iushrg (a := a) (b := 8) (p := 256) rfl rfl rfl (by decide) (by decide) ?_
      refine RQ.seg 1 (pc' := 15) (L' := [some (.int (iI a)), some (.int (iI 1)), some (.int (iI 8))]) (st' := [.int (iI 255), .int (iI (a % 4294967296 / 256))]) (g1 := g) rfl ?_
      refine RQ.iandm 8 (a := a % 4294967296 / 256) (m := 255) (p := 256) rfl rfl rfl (by decide) (by decide) (by decide) ?_
      rw [show a % 4294967296 / 256 % 256 = a / 256 % 256 by omega]
      refine RQ.if1 (a := (a / 256 % 256)) rfl rfl rfl (by omega) (fun (h10 : a / 256 % 256 = 0) => ?_) (fun (h10 : ¬ a / 256 % 256 = 0) => ?_)
      · skip
        refine RQ.seg 6 (pc' := 11) (L' := [some (.int (iI a)), some (.int (iI 1)), some (.int (iI 0))]) (st' := [.int (iI 0), .int (iI a)]) (g1 := g) rfl ?_
        refine RQ.iushrg (a := a) (b := 0) (p := 1) rfl rfl rfl (by decide) (by decide) ?_
        refine RQ.seg 1 (pc' := 15) (L' := [some (.int (iI a)), some (.int (iI 1)), some (.int (iI 0))]) (st' := [.int (iI 255), .int (iI (a % 4294967296 / 1))]) (g1 := g) rfl ?_
        refine RQ.iandm 8 (a := a % 4294967296 / 1) (m := 255) (p := 256) rfl rfl rfl (by decide) (by decide) (by decide) ?_
        rw [show a % 4294967296 / 1 % 256 = a / 1 % 256 by omega]
        refine RQ.if1 (a := (a / 1 % 256)) rfl rfl rfl (by omega) (fun (h11 : a / 1 % 256 = 0) => ?_) (fun (h11 : ¬ a / 1 % 256 = 0) => ?_)
        · skip
          refine RQ.seg 5 (pc' := 29) (L' := [some (.int (iI a)), some (.int (iI 1)), some (.int (iI (-8)))]) (st' := [.int (iI 1)]) (g1 := g) rfl ?_
          refine RQ.ret rfl rfl ?_
          exact ⟨by congr 3; unfold cnt nz1; (repeat (first | rw [if_pos (by omega)] | rw [if_neg (by omega)])); omega, rfl⟩
        · skip
          refine RQ.seg 6 (pc' := 29) (L' := [some (.int (iI a)), some (.int (iI 2)), some (.int (iI (-8)))]) (st' := [.int (iI 2)]) (g1 := g) rfl ?_
          refine RQ.ret rfl rfl ?_
          exact ⟨by congr 3; unfold cnt nz1; (repeat (first | rw [if_pos (by omega)] | rw [if_neg (by omega)])); omega, rfl⟩
      · skip
        refine RQ.seg 7 (pc' := 11) (L' := [some (.int (iI a)), some (.int (iI 2)), some (.int (iI 0))]) (st' := [.int (iI 0), .int (iI a)]) (g1 := g) rfl ?_
        refine RQ.iushrg (a := a) (b := 0) (p := 1) rfl rfl rfl (by decide) (by decide) ?_
        refine RQ.seg 1 (pc' := 15) (L' := [some (.int (iI a)), some (.int (iI 2)), some (.int (iI 0))]) (st' := [.int (iI 255), .int (iI (a % 4294967296 / 1))]) (g1 := g) rfl ?_
        refine RQ.iandm 8 (a := a % 4294967296 / 1) (m := 255) (p := 256) rfl rfl rfl (by decide) (by decide) (by decide) ?_
        rw [show a % 4294967296 / 1 % 256 = a / 1 % 256 by omega]
        refine RQ.if1 (a := (a / 1 % 256)) rfl rfl rfl (by omega) (fun (h12 : a / 1 % 256 = 0) => ?_) (fun (h12 : ¬ a / 1 % 256 = 0) => ?_)
        · skip
          refine RQ.seg 5 (pc' := 29) (L' := [some (.int (iI a)), some (.int (iI 2)), some (.int (iI (-8)))]) (st' := [.int (iI 2)]) (g1 := g) rfl ?_
          refine RQ.ret rfl rfl ?_
          exact ⟨by congr 3; unfold cnt nz1; (repeat (first | rw [if_pos (by omega)] | rw [if_neg (by omega)])); omega, rfl⟩
        · skip
          refine RQ.seg 6 (pc' := 29) (L' := [some (.int (iI a)), some (.int (iI 3)), some (.int (iI (-8)))]) (st' := [.int (iI 3)]) (g1 := g) rfl ?_
          refine RQ.ret rfl rfl ?_
          exact ⟨by congr 3; unfold cnt nz1; (repeat (first | rw [if_pos (by omega)] | rw [if_neg (by omega)])); omega, rfl⟩
    · skip
      refine RQ.seg 7 (pc' := 11) (L' := [some (.int (iI a)), some (.int (iI 2)), some (.int (iI 8))]) (st' := [.int (iI 8), .int (iI a)]) (g1 := g) rfl ?_
      refine RQ.iushrg (a := a) (b := 8) (p := 256) rfl rfl rfl (by decide) (by decide) ?_
      refine RQ.seg 1 (pc' := 15) (L' := [some (.int (iI a)), some (.int (iI 2)), some (.int (iI 8))]) (st' := [.int (iI 255), .int (iI (a % 4294967296 / 256))]) (g1 := g) rfl ?_
      refine RQ.iandm 8 (a := a % 4294967296 / 256) (m := 255) (p := 256) rfl rfl rfl (by decide) (by decide) (by decide) ?_
      rw [show a % 4294967296 / 256 % 256 = a / 256 % 256 by omega]
      refine RQ.if1 (a := (a / 256 % 256)) rfl rfl rfl (by omega) (fun (h13 : a / 256 % 256 = 0) => ?_) (fun (h13 : ¬ a / 256 % 256 = 0) => ?_)
      · skip
        refine RQ.seg 6 (pc' := 11) (L' := [some (.int (iI a)), some (.int (iI 2)), some (.int (iI 0))]) (st' := [.int (iI 0), .int (iI a)]) (g1 := g) rfl ?_
        refine RQ.iushrg (a := a) (b := 0) (p := 1) rfl rfl rfl (by decide) (by decide) ?_
        refine RQ.seg 1 (pc' := 15) (L' := [some (.int (iI a)), some (.int (iI 2)), some (.int (iI 0))]) (st' := [.int (iI 255), .int (iI (a % 4294967296 / 1))]) (g1 := g) rfl ?_
        refine RQ.iandm 8 (a := a % 4294967296 / 1) (m := 255) (p := 256) rfl rfl rfl (by decide) (by decide) (by decide) ?_
        rw [show a % 4294967296 / 1 % 256 = a / 1 % 256 by omega]
        refine RQ.if1 (a := (a / 1 % 256)) rfl rfl rfl (by omega) (fun (h14 : a / 1 % 256 = 0) => ?_) (fun (h14 : ¬ a / 1 % 256 = 0) => ?_)
        · skip
          refine RQ.seg 5 (pc' := 29) (L' := [some (.int (iI a)), some (.int (iI 2)), some (.int (iI (-8)))]) (st' := [.int (iI 2)]) (g1 := g) rfl ?_
          refine RQ.ret rfl rfl ?_
          exact ⟨by congr 3; unfold cnt nz1; (repeat (first | rw [if_pos (by omega)] | rw [if_neg (by omega)])); omega, rfl⟩
        · skip
          refine RQ.seg 6 (pc' := 29) (L' := [some (.int (iI a)), some (.int (iI 3)), some (.int (iI (-8)))]) (st' := [.int (iI 3)]) (g1 := g) rfl ?_
          refine RQ.ret rfl rfl ?_
          exact ⟨by congr 3; unfold cnt nz1; (repeat (first | rw [if_pos (by omega)] | rw [if_neg (by omega)])); omega, rfl⟩
      · skip
        refine RQ.seg 7 (pc' := 11) (L' := [some (.int (iI a)), some (.int (iI 3)), some (.int (iI 0))]) (st' := [.int (iI 0), .int (iI a)]) (g1 := g) rfl ?_
        refine RQ.iushrg (a := a) (b := 0) (p := 1) rfl rfl rfl (by decide) (by decide) ?_
        refine RQ.seg 1 (pc' := 15) (L' := [some (.int (iI a)), some (.int (iI 3)), some (.int (iI 0))]) (st' := [.int (iI 255), .int (iI (a % 4294967296 / 1))]) (g1 := g) rfl ?_
        refine RQ.iandm 8 (a := a % 4294967296 / 1) (m := 255) (p := 256) rfl rfl rfl (by decide) (by decide) (by decide) ?_
        rw [show a % 4294967296 / 1 % 256 = a / 1 % 256 by omega]
        refine RQ.if1 (a := (a / 1 % 256)) rfl rfl rfl (by omega) (fun (h15 : a / 1 % 256 = 0) => ?_) (fun (h15 : ¬ a / 1 % 256 = 0) => ?_)
        · skip
          refine RQ.seg 5 (pc' := 29) (L' := [some (.int (iI a)), some (.int (iI 3)), some (.int (iI (-8)))]) (st' := [.int (iI 3)]) (g1 := g) rfl ?_
          refine RQ.ret rfl rfl ?_
          exact ⟨by congr 3; unfold cnt nz1; (repeat (first | rw [if_pos (by omega)] | rw [if_neg (by omega)])); omega, rfl⟩
        · skip
          refine RQ.seg 6 (pc' := 29) (L' := [some (.int (iI a)), some (.int (iI 4)), some (.int (iI (-8)))]) (st' := [.int (iI 4)]) (g1 := g) rfl ?_
          refine RQ.ret rfl rfl ?_
          exact ⟨by congr 3; unfold cnt nz1; (repeat (first | rw [if_pos (by omega)] | rw [if_neg (by omega)])); omega, rfl⟩
theorem m_bytes {K : PK} {d : Nat} {g : PG} {a : Int} (ra : -2147483648 ≤ a ∧ a < 2147483648) : CallR K (d + 1) 153 [.int (iI a)] g (some (.int (iI (cnt a)))) g := by
  apply CQ.x
  refine CQ.of (own := 11) (n := 3) (ini := false) (rt := (some .int)) (cd := cd153) (by decide +kernel) rfl (by decide +kernel) rfl (Nat.le_of_ble_eq_true rfl) ?_
  refine RQ.seg 9 (pc' := 12) (L' := [some (.int (iI a)), some (.int (iI 0)), some (.int (iI 24))]) (st' := [.int (iI 24), .int (iI a), .int (iI 0)]) (g1 := g) rfl ?_
  refine RQ.ishr (a := a) (b := 24) (p := 16777216) rfl rfl rfl (by omega) (by omega) (by decide) ?_
  refine RQ.seg 1 (pc' := 16) (L' := [some (.int (iI a)), some (.int (iI 0)), some (.int (iI 24))]) (st' := [.int (iI 255), .int (iI (a / 16777216)), .int (iI 0)]) (g1 := g) rfl ?_
  refine RQ.iandm 8 (a := (a / 16777216)) (m := 255) (p := 256) rfl rfl rfl (by decide) (by decide) (by decide) ?_
  refine RQ.if1 (a := ((a / 16777216) % 256)) rfl rfl rfl (by omega) (fun (h1 : (a / 16777216) % 256 = 0) => ?_) (fun (h1 : ¬ (a / 16777216) % 256 = 0) => ?_)
  · skip
    refine RQ.seg 10 (pc' := 12) (L' := [some (.int (iI a)), some (.int (iI 0)), some (.int (iI 16))]) (st' := [.int (iI 16), .int (iI a), .int (iI 0)]) (g1 := g) rfl ?_
    refine RQ.ishr (a := a) (b := 16) (p := 65536) rfl rfl rfl (by omega) (by omega) (by decide) ?_
    refine RQ.seg 1 (pc' := 16) (L' := [some (.int (iI a)), some (.int (iI 0)), some (.int (iI 16))]) (st' := [.int (iI 255), .int (iI (a / 65536)), .int (iI 0)]) (g1 := g) rfl ?_
    refine RQ.iandm 8 (a := (a / 65536)) (m := 255) (p := 256) rfl rfl rfl (by decide) (by decide) (by decide) ?_
    refine RQ.if1 (a := ((a / 65536) % 256)) rfl rfl rfl (by omega) (fun (h2 : (a / 65536) % 256 = 0) => ?_) (fun (h2 : ¬ (a / 65536) % 256 = 0) => ?_)
    · skip
      refine RQ.seg 10 (pc' := 12) (L' := [some (.int (iI a)), some (.int (iI 0)), some (.int (iI 8))]) (st' := [.int (iI 8), .int (iI a), .int (iI 0)]) (g1 := g) rfl ?_
      refine RQ.ishr (a := a) (b := 8) (p := 256) rfl rfl rfl (by omega) (by omega) (by decide) ?_
      refine RQ.seg 1 (pc' := 16) (L' := [some (.int (iI a)), some (.int (iI 0)), some (.int (iI 8))]) (st' := [.int (iI 255), .int (iI (a / 256)), .int (iI 0)]) (g1 := g) rfl ?_
      refine RQ.iandm 8 (a := (a / 256)) (m := 255) (p := 256) rfl rfl rfl (by decide) (by decide) (by decide) ?_
      refine RQ.if1 (a := ((a / 256) % 256)) rfl rfl rfl (by omega) (fun (h3 : (a / 256) % 256 = 0) => ?_) (fun (h3 : ¬ (a / 256) % 256 = 0) => ?_)
      · skip
        refine RQ.seg 10 (pc' := 12) (L' := [some (.int (iI a)), some (.int (iI 0)), some (.int (iI 0))]) (st' := [.int (iI 0), .int (iI a), .int (iI 0)]) (g1 := g) rfl ?_
        refine RQ.ishr (a := a) (b := 0) (p := 1) rfl rfl rfl (by omega) (by omega) (by decide) ?_
        refine RQ.seg 1 (pc' := 16) (L' := [some (.int (iI a)), some (.int (iI 0)), some (.int (iI 0))]) (st' := [.int (iI 255), .int (iI (a / 1)), .int (iI 0)]) (g1 := g) rfl ?_
        refine RQ.iandm 8 (a := (a / 1)) (m := 255) (p := 256) rfl rfl rfl (by decide) (by decide) (by decide) ?_
        refine RQ.if1 (a := ((a / 1) % 256)) rfl rfl rfl (by omega) (fun (h4 : (a / 1) % 256 = 0) => ?_) (fun (h4 : ¬ (a / 1) % 256 = 0) => ?_)
        · skip
          refine RQ.seg 8 (pc' := 34) (L' := [some (.int (iI a)), some (.int (iI 0)), some (.int (iI (-8)))]) (st' := [.int (iI 0)]) (g1 := g) rfl ?_
          refine RQ.ret rfl rfl ?_
          exact ⟨by congr 3; unfold cnt nz1; (repeat (first | rw [if_pos (by omega)] | rw [if_neg (by omega)])); omega, rfl⟩
        · skip
          refine RQ.seg 9 (pc' := 34) (L' := [some (.int (iI a)), some (.int (iI 1)), some (.int (iI (-8)))]) (st' := [.int (iI 1)]) (g1 := g) rfl ?_
          refine RQ.ret rfl rfl ?_
          exact ⟨by congr 3; unfold cnt nz1; (repeat (first | rw [if_pos (by omega)] | rw [if_neg (by omega)])); omega, rfl⟩
      · skip
        refine RQ.seg 11 (pc' := 12) (L' := [some (.int (iI a)), some (.int (iI 1)), some (.int (iI 0))]) (st' := [.int (iI 0), .int (iI a), .int (iI 1)]) (g1 := g) rfl ?_
        refine RQ.ishr (a := a) (b := 0) (p := 1) rfl rfl rfl (by omega) (by omega) (by decide) ?_
        refine RQ.seg 1 (pc' := 16) (L' := [some (.int (iI a)), some (.int (iI 1)), some (.int (iI 0))]) (st' := [.int (iI 255), .int (iI (a / 1)), .int (iI 1)]) (g1 := g) rfl ?_
        refine RQ.iandm 8 (a := (a / 1)) (m := 255) (p := 256) rfl rfl rfl (by decide) (by decide) (by decide) ?_
        refine RQ.if1 (a := ((a / 1) % 256)) rfl rfl rfl (by omega) (fun (h5 : (a / 1) % 256 = 0) => ?_) (fun (h5 : ¬ (a / 1) % 256 = 0) => ?_)
        · skip
          refine RQ.seg 8 (pc' := 34) (L' := [some (.int (iI a)), some (.int (iI 1)), some (.int (iI (-8)))]) (st' := [.int (iI 1)]) (g1 := g) rfl ?_
          refine RQ.ret rfl rfl ?_
          exact ⟨by congr 3; unfold cnt nz1; (repeat (first | rw [if_pos (by omega)] | rw [if_neg (by omega)])); omega, rfl⟩
        · skip
          refine RQ.seg 9 (pc' := 34) (L' := [some (.int (iI a)), some (.int (iI 2)), some (.int (iI (-8)))]) (st' := [.int (iI 2)]) (g1 := g) rfl ?_
          refine RQ.ret rfl rfl ?_
          exact ⟨by congr 3; unfold cnt nz1; (repeat (first | rw [if_pos (by omega)] | rw [if_neg (by omega)])); omega, rfl⟩
    · skip
      refine RQ.seg 11 (pc' := 12) (L' := [some (.int (iI a)), some (.int (iI 1)), some (.int (iI 8))]) (st' := [.int (iI 8), .int (iI a), .int (iI 1)]) (g1 := g) rfl ?_
      refine RQ.ishr (a := a) (b := 8) (p := 256) rfl rfl rfl (by omega) (by omega) (by decide) ?_
      refine RQ.seg 1 (pc' := 16) (L' := [some (.int (iI a)), some (.int (iI 1)), some (.int (iI 8))]) (st' := [.int (iI 255), .int (iI (a / 256)), .int (iI 1)]) (g1 := g) rfl ?_
      refine RQ.iandm 8 (a := (a / 256)) (m := 255) (p := 256) rfl rfl rfl (by decide) (by decide) (by decide) ?_
      refine RQ.if1 (a := ((a / 256) % 256)) rfl rfl rfl (by omega) (fun (h6 : (a / 256) % 256 = 0) => ?_) (fun (h6 : ¬ (a / 256) % 256 = 0) => ?_)
      · skip
        refine RQ.seg 10 (pc' := 12) (L' := [some (.int (iI a)), some (.int (iI 1)), some (.int (iI 0))]) (st' := [.int (iI 0), .int (iI a), .int (iI 1)]) (g1 := g) rfl ?_
        refine RQ.ishr (a := a) (b := 0) (p := 1) rfl rfl rfl (by omega) (by omega) (by decide) ?_
        refine RQ.seg 1 (pc' := 16) (L' := [some (.int (iI a)), some (.int (iI 1)), some (.int (iI 0))]) (st' := [.int (iI 255), .int (iI (a / 1)), .int (iI 1)]) (g1 := g) rfl ?_
        refine RQ.iandm 8 (a := (a / 1)) (m := 255) (p := 256) rfl rfl rfl (by decide) (by decide) (by decide) ?_
        refine RQ.if1 (a := ((a / 1) % 256)) rfl rfl rfl (by omega) (fun (h7 : (a / 1) % 256 = 0) => ?_) (fun (h7 : ¬ (a / 1) % 256 = 0) => ?_)
        · skip
          refine RQ.seg 8 (pc' := 34) (L' := [some (.int (iI a)), some (.int (iI 1)), some (.int (iI (-8)))]) (st' := [.int (iI 1)]) (g1 := g) rfl ?_
          refine RQ.ret rfl rfl ?_
          exact ⟨by congr 3; unfold cnt nz1; (repeat (first | rw [if_pos (by omega)] | rw [if_neg (by omega)])); omega, rfl⟩
        · skip
          refine RQ.seg 9 (pc' := 34) (L' := [some (.int (iI a)), some (.int (iI 2)), some (.int (iI (-8)))]) (st' := [.int (iI 2)]) (g1 := g) rfl ?_
          refine RQ.ret rfl rfl ?_
          exact ⟨by congr 3; unfold cnt nz1; (repeat (first | rw [if_pos (by omega)] | rw [if_neg (by omega)])); omega, rfl⟩
      · skip
        refine RQ.seg 11 (pc' := 12) (L' := [some (.int (iI a)), some (.int (iI 2)), some (.int (iI 0))]) (st' := [.int (iI 0), .int (iI a), .int (iI 2)]) (g1 := g) rfl ?_
        refine RQ.ishr (a := a) (b := 0) (p := 1) rfl rfl rfl (by omega) (by omega) (by decide) ?_
        refine RQ.seg 1 (pc' := 16) (L' := [some (.int (iI a)), some (.int (iI 2)), some (.int (iI 0))]) (st' := [.int (iI 255), .int (iI (a / 1)), .int (iI 2)]) (g1 := g) rfl ?_
        refine RQ.iandm 8 (a := (a / 1)) (m := 255) (p := 256) rfl rfl rfl (by decide) (by decide) (by decide) ?_
        refine RQ.if1 (a := ((a / 1) % 256)) rfl rfl rfl (by omega) (fun (h8 : (a / 1) % 256 = 0) => ?_) (fun (h8 : ¬ (a / 1) % 256 = 0) => ?_)
        · skip
          refine RQ.seg 8 (pc' := 34) (L' := [some (.int (iI a)), some (.int (iI 2)), some (.int (iI (-8)))]) (st' := [.int (iI 2)]) (g1 := g) rfl ?_
          refine RQ.ret rfl rfl ?_
          exact ⟨by congr 3; unfold cnt nz1; (repeat (first | rw [if_pos (by omega)] | rw [if_neg (by omega)])); omega, rfl⟩
        · skip
          refine RQ.seg 9 (pc' := 34) (L' := [some (.int (iI a)), some (.int (iI 3)), some (.int (iI (-8)))]) (st' := [.int (iI 3)]) (g1 := g) rfl ?_
          refine RQ.ret rfl rfl ?_
          exact ⟨by congr 3; unfold cnt nz1; (repeat (first | rw [if_pos (by omega)] | rw [if_neg (by omega)])); omega, rfl⟩
  · skip
    refine RQ.seg 11 (pc' := 12) (L' := [some (.int (iI a)), some (.int (iI 1)), some (.int (iI 16))]) (st' := [.int (iI 16), .int (iI a), .int (iI 1)]) (g1 := g) rfl ?_
    refine RQ.ishr (a := a) (b := 16) (p := 65536) rfl rfl rfl (by omega) (by omega) (by decide) ?_
    refine RQ.seg 1 (pc' := 16) (L' := [some (.int (iI a)), some (.int (iI 1)), some (.int (iI 16))]) (st' := [.int (iI 255), .int (iI (a / 65536)), .int (iI 1)]) (g1 := g) rfl ?_
    refine RQ.iandm 8 (a := (a / 65536)) (m := 255) (p := 256) rfl rfl rfl (by decide) (by decide) (by decide) ?_
    refine RQ.if1 (a := ((a / 65536) % 256)) rfl rfl rfl (by omega) (fun (h9 : (a / 65536) % 256 = 0) => ?_) (fun (h9 : ¬ (a / 65536) % 256 = 0) => ?_)
    · skip
      refine RQ.seg 10 (pc' := 12) (L' := [some (.int (iI a)), some (.int (iI 1)), some (.int (iI 8))]) (st' := [.int (iI 8), .int (iI a), .int (iI 1)]) (g1 := g) rfl ?_
      refine RQ.ishr (a := a) (b := 8) (p := 256) rfl rfl rfl (by omega) (by omega) (by decide) ?_
      refine RQ.seg 1 (pc' := 16) (L' := [some (.int (iI a)), some (.int (iI 1)), some (.int (iI 8))]) (st' := [.int (iI 255), .int (iI (a / 256)), .int (iI 1)]) (g1 := g) rfl ?_
      refine RQ.iandm 8 (a := (a / 256)) (m := 255) (p := 256) rfl rfl rfl (by decide) (by decide) (by decide) ?_
      refine RQ.if1 (a := ((a / 256) % 256)) rfl rfl rfl (by omega) (fun (h10 : (a / 256) % 256 = 0) => ?_) (fun (h10 : ¬ (a / 256) % 256 = 0) => ?_)
      · skip
        refine RQ.seg 10 (pc' := 12) (L' := [some (.int (iI a)), some (.int (iI 1)), some (.int (iI 0))]) (st' := [.int (iI 0), .int (iI a), .int (iI 1)]) (g1 := g) rfl ?_
        refine RQ.ishr (a := a) (b := 0) (p := 1) rfl rfl rfl (by omega) (by omega) (by decide) ?_
        refine RQ.seg 1 (pc' := 16) (L' := [some (.int (iI a)), some (.int (iI 1)), some (.int (iI 0))]) (st' := [.int (iI 255), .int (iI (a / 1)), .int (iI 1)]) (g1 := g) rfl ?_
        refine RQ.iandm 8 (a := (a / 1)) (m := 255) (p := 256) rfl rfl rfl (by decide) (by decide) (by decide) ?_
        refine RQ.if1 (a := ((a / 1) % 256)) rfl rfl rfl (by omega) (fun (h11 : (a / 1) % 256 = 0) => ?_) (fun (h11 : ¬ (a / 1) % 256 = 0) => ?_)
        · skip
          refine RQ.seg 8 (pc' := 34) (L' := [some (.int (iI a)), some (.int (iI 1)), some (.int (iI (-8)))]) (st' := [.int (iI 1)]) (g1 := g) rfl ?_
          refine RQ.ret rfl rfl ?_
          exact ⟨by congr 3; unfold cnt nz1; (repeat (first | rw [if_pos (by omega)] | rw [if_neg (by omega)])); omega, rfl⟩
        · skip
          refine RQ.seg 9 (pc' := 34) (L' := [some (.int (iI a)), some (.int (iI 2)), some (.int (iI (-8)))]) (st' := [.int (iI 2)]) (g1 := g) rfl ?_
          refine RQ.ret rfl rfl ?_
          exact ⟨by congr 3; unfold cnt nz1; (repeat (first | rw [if_pos (by omega)] | rw [if_neg (by omega)])); omega, rfl⟩
      · skip
        refine RQ.seg 11 (pc' := 12) (L' := [some (.int (iI a)), some (.int (iI 2)), some (.int (iI 0))]) (st' := [.int (iI 0), .int (iI a), .int (iI 2)]) (g1 := g) rfl ?_
        refine RQ.ishr (a := a) (b := 0) (p := 1) rfl rfl rfl (by omega) (by omega) (by decide) ?_
        refine RQ.seg 1 (pc' := 16) (L' := [some (.int (iI a)), some (.int (iI 2)), some (.int (iI 0))]) (st' := [.int (iI 255), .int (iI (a / 1)), .int (iI 2)]) (g1 := g) rfl ?_
        refine RQ.iandm 8 (a := (a / 1)) (m := 255) (p := 256) rfl rfl rfl (by decide) (by decide) (by decide) ?_
        refine RQ.if1 (a := ((a / 1) % 256)) rfl rfl rfl (by omega) (fun (h12 : (a / 1) % 256 = 0) => ?_) (fun (h12 : ¬ (a / 1) % 256 = 0) => ?_)
        · skip
          refine RQ.seg 8 (pc' := 34) (L' := [some (.int (iI a)), some (.int (iI 2)), some (.int (iI (-8)))]) (st' := [.int (iI 2)]) (g1 := g) rfl ?_
          refine RQ.ret rfl rfl ?_
          exact ⟨by congr 3; unfold cnt nz1; (repeat (first | rw [if_pos (by omega)] | rw [if_neg (by omega)])); omega, rfl⟩
        · skip
          refine RQ.seg 9 (pc' := 34) (L' := [some (.int (iI a)), some (.int (iI 3)), some (.int (iI (-8)))]) (st' := [.int (iI 3)]) (g1 := g) rfl ?_
          refine RQ.ret rfl rfl ?_
          exact ⟨by congr 3; unfold cnt nz1; (repeat (first | rw [if_pos (by omega)] | rw [if_neg (by omega)])); omega, rfl⟩
    · skip
      refine RQ.seg 11 (pc' := 12) (L' := [some (.int (iI a)), some (.int (iI 2)), some (.int (iI 8))]) (st' := [.int (iI 8), .int (iI a), .int (iI 2)]) (g1 := g) rfl ?_
      refine RQ.ishr (a := a) (b := 8) (p := 256) rfl rfl rfl (by omega) (by omega) (by decide) ?_
      refine RQ.seg 1 (pc' := 16) (L' := [some (.int (iI a)), some (.int (iI 2)), some (.int (iI 8))]) (st' := [.int (iI 255), .int (iI (a / 256)), .int (iI 2)]) (g1 := g) rfl ?_
      refine RQ.iandm 8 (a := (a / 256)) (m := 255) (p := 256) rfl rfl rfl (by decide) (by decide) (by decide) ?_
      refine RQ.if1 (a := ((a / 256) % 256)) rfl rfl rfl (by omega) (fun (h13 : (a / 256) % 256 = 0) => ?_) (fun (h13 : ¬ (a / 256) % 256 = 0) => ?_)
      · skip
        refine RQ.seg 10 (pc' := 12) (L' := [some (.int (iI a)), some (.int (iI 2)), some (.int (iI 0))]) (st' := [.int (iI 0), .int (iI a), .int (iI 2)]) (g1 := g) rfl ?_
        refine RQ.ishr (a := a) (b := 0) (p := 1) rfl rfl rfl (by omega) (by omega) (by decide) ?_
        refine RQ.seg 1 (pc' := 16) (L' := [some (.int (iI a)), some (.int (iI 2)), some (.int (iI 0))]) (st' := [.int (iI 255), .int (iI (a / 1)), .int (iI 2)]) (g1 := g) rfl ?_
        refine RQ.iandm 8 (a := (a / 1)) (m := 255) (p := 256) rfl rfl rfl (by decide) (by decide) (by decide) ?_
        refine RQ.if1 (a := ((a / 1) % 256)) rfl rfl rfl (by omega) (fun (h14 : (a / 1) % 256 = 0) => ?_) (fun (h14 : ¬ (a / 1) % 256 = 0) => ?_)
        · skip
          refine RQ.seg 8 (pc' := 34) (L' := [some (.int (iI a)), some (.int (iI 2)), some (.int (iI (-8)))]) (st' := [.int (iI 2)]) (g1 := g) rfl ?_
          refine RQ.ret rfl rfl ?_
          exact ⟨by congr 3; unfold cnt nz1; (repeat (first | rw [if_pos (by omega)] | rw [if_neg (by omega)])); omega, rfl⟩
        · skip
          refine RQ.seg 9 (pc' := 34) (L' := [some (.int (iI a)), some (.int (iI 3)), some (.int (iI (-8)))]) (st' := [.int (iI 3)]) (g1 := g) rfl ?_
          refine RQ.ret rfl rfl ?_
          exact ⟨by congr 3; unfold cnt nz1; (repeat (first | rw [if_pos (by omega)] | rw [if_neg (by omega)])); omega, rfl⟩
      · skip
        refine RQ.seg 11 (pc' := 12) (L' := [some (.int (iI a)), some (.int (iI 3)), some (.int (iI 0))]) (st' := [.int (iI 0), .int (iI a), .int (iI 3)]) (g1 := g) rfl ?_
        refine RQ.ishr (a := a) (b := 0) (p := 1) rfl rfl rfl (by omega) (by omega) (by decide) ?_
        refine RQ.seg 1 (pc' := 16) (L' := [some (.int (iI a)), some (.int (iI 3)), some (.int (iI 0))]) (st' := [.int (iI 255), .int (iI (a / 1)), .int (iI 3)]) (g1 := g) rfl ?_
        refine RQ.iandm 8 (a := (a / 1)) (m := 255) (p := 256) rfl rfl rfl (by decide) (by decide) (by decide) ?_
        refine RQ.if1 (a := ((a / 1) % 256)) rfl rfl rfl (by omega) (fun (h15 : (a / 1) % 256 = 0) => ?_) (fun (h15 : ¬ (a / 1) % 256 = 0) => ?_)
        · skip
          refine RQ.seg 8 (pc' := 34) (L' := [some (.int (iI a)), some (.int (iI 3)), some (.int (iI (-8)))]) (st' := [.int (iI 3)]) (g1 := g) rfl ?_
          refine RQ.ret rfl rfl ?_
          exact ⟨by congr 3; unfold cnt nz1; (repeat (first | rw [if_pos (by omega)] | rw [if_neg (by omega)])); omega, rfl⟩
        · skip
          refine RQ.seg 9 (pc' := 34) (L' := [some (.int (iI a)), some (.int (iI 4)), some (.int (iI (-8)))]) (st' := [.int (iI 4)]) (g1 := g) rfl ?_
          refine RQ.ret rfl rfl ?_
          exact ⟨by congr 3; unfold cnt nz1; (repeat (first | rw [if_pos (by omega)] | rw [if_neg (by omega)])); omega, rfl⟩
theorem x_ap24 {K : PK} {d : Nat} {sc : Nat → Int} {ar : Nat → Int → Int} {tx oc : Nat} {rl : Nat → Option Nat} {ou : Nat → Int64} {tl : List PO} {q : Nat × Nat} {Q : Option Value → PG → Prop} {a : Int} (ra : -2147483648 ≤ a ∧ a < 2147483648) {l : List Int} {f : Int → Int} (hl : LAt (fun v => v) f l) (hr : l.length + nz1 (a / 16777216 % 256) ≤ 160) {e3 : Option Value} (hk : ∀ (f : Int → Int) (e3 : Option Value) , LAt (fun v => v) f (stp1 l (a / 16777216 % 256)) → RQ K (d + 0) 9 false none cd103 3 [some (.ref 1), some (.int (iI a)), some (.int (iI 16)), e3] [] (HW (usc sc 101 ((stp1 l (a / 16777216 % 256)).length : Int)) (usc ar 2 f) tx oc rl ou tl, q) Q) : RQ K (d + 0) 9 false none cd103 3 [some (.ref 1), some (.int (iI a)), some (.int (iI 24)), e3] [] (HW (usc sc 101 (l.length : Int)) (usc ar 2 f) tx oc rl ou tl, q) Q := by
  have hb : 0 ≤ a / 16777216 % 256 ∧ a / 16777216 % 256 < 256 := by omega
  refine RQ.seg 4 (pc' := 9) (L' := [some (.ref 1), some (.int (iI a)), some (.int (iI 24)), e3]) (st' := [.int (iI 24), .int (iI a)]) (g1 := (HW (usc sc 101 (l.length : Int)) (usc ar 2 f) tx oc rl ou tl, q)) rfl ?_
  refine RQ.iushrg (a := a) (b := 24) (p := 16777216) rfl rfl rfl (by decide) (by decide) ?_
  refine RQ.seg 1 (pc' := 13) (L' := [some (.ref 1), some (.int (iI a)), some (.int (iI 24)), e3]) (st' := [.int (iI 255), .int (iI (a % 4294967296 / 16777216))]) (g1 := (HW (usc sc 101 (l.length : Int)) (usc ar 2 f) tx oc rl ou tl, q)) rfl ?_
  refine RQ.iandm 8 (a := a % 4294967296 / 16777216) (m := 255) (p := 256) rfl rfl rfl (by decide) (by decide) (by decide) ?_
  rw [show a % 4294967296 / 16777216 % 256 = a / 16777216 % 256 by omega]
  refine RQ.seg 2 (pc' := 16) (L' := [some (.ref 1), some (.int (iI a)), some (.int (iI 24)), some (.int (iI (a / 16777216 % 256)))]) (st' := [.int (iI (a / 16777216 % 256))]) (g1 := (HW (usc sc 101 (l.length : Int)) (usc ar 2 f) tx oc rl ou tl, q)) rfl ?_
  refine RQ.if1 (a := (a / 16777216 % 256)) rfl rfl rfl (by omega) (fun (h1 : a / 16777216 % 256 = 0) => ?_) (fun (h1 : ¬ a / 16777216 % 256 = 0) => ?_)
  · skip
    refine RQ.seg 2 (pc' := 3) (L' := [some (.ref 1), some (.int (iI a)), some (.int (iI 16)), some (.int (iI (a / 16777216 % 256)))]) (st' := []) (g1 := (HW (usc sc 101 (l.length : Int)) (usc ar 2 f) tx oc rl ou tl, q)) rfl ?_
    have e9 := stp1_0 (l := l) (b := a / 16777216 % 256) (by omega)
    rw [e9] at hk
    exact hk f _ hl
  · skip
    have hr2 : (l.length : Int) < 160 := by unfold nz1 at hr; rw [if_neg (by omega)] at hr; omega
    refine RQ.seg 4 (pc' := 27) (L' := [some (.ref 1), some (.int (iI a)), some (.int (iI 24)), some (.int (iI (a / 16777216 % 256)))]) (st' := [.ref 2, .int (iI (l.length : Int))]) (g1 := (HW (usc sc 101 (l.length : Int)) (usc ar 2 f) tx oc rl ou tl, q)) rfl ?_
    refine RQ.alen rfl rfl ?_
    refine RQ.if2 (a := (l.length : Int)) (b := 160) rfl rfl rfl rfl (by omega) (by omega) (fun (q : 160 ≤ (l.length : Int)) => absurd q (show ¬ 160 ≤ (l.length : Int) from by omega)) (fun _ => ?_)
    refine RQ.seg 5 (pc' := 40) (L' := [some (.ref 1), some (.int (iI a)), some (.int (iI 24)), some (.int (iI (a / 16777216 % 256)))]) (st' := [.int (iI (a / 16777216 % 256)), .int (iI (l.length : Int)), .ref 2]) (g1 := (HW (usc sc 101 (l.length : Int)) (usc ar 2 f) tx oc rl ou tl, q)) rfl ?_
    refine RQ.iast (z := (l.length : Int)) (v := (a / 16777216 % 256)) (g1 := (HW (usc sc 101 (l.length : Int)) (usc ar 2 (usz f (l.length : Int) (a / 16777216 % 256))) tx oc rl ou tl, q)) rfl rfl rfl rfl (by omega) (by decide) (HWa_2 (by funext j; unfold usc; cases hb : Nat.beq j 2 <;> first | rfl | (rw [Nat.eq_of_beq_eq_true hb]; rfl))) ?_
    refine RQ.seg 5 (pc' := 48) (L' := [some (.ref 1), some (.int (iI a)), some (.int (iI 24)), some (.int (iI (a / 16777216 % 256)))]) (st' := [.int ((iI (l.length : Int)) + (iI 1)), .ref 1]) (g1 := (HW (usc sc 101 (l.length : Int)) (usc ar 2 (usz f (l.length : Int) (a / 16777216 % 256))) tx oc rl ou tl, q)) rfl ?_
    refine RQ.to (L' := [some (.ref 1), some (.int (iI a)), some (.int (iI 24)), some (.int (iI (a / 16777216 % 256)))]) (st' := [.int (iI ((l.length : Int) + 1)), .ref 1]) rfl (by simp only [iI_add, iI_sub, iI_mul, iI_neg]) ?_
    refine RQ.seg 3 (pc' := 3) (L' := [some (.ref 1), some (.int (iI a)), some (.int (iI 16)), some (.int (iI (a / 16777216 % 256)))]) (st' := []) (g1 := (HW (usc sc 101 ((l.length : Int) + 1)) (usc ar 2 (usz f (l.length : Int) (a / 16777216 % 256))) tx oc rl ou tl, q)) rfl ?_
    have e9 := stp1_n (l := l) (b := a / 16777216 % 256) (by omega)
    rw [e9] at hk
    exact hk _ _ (hl.ap (by omega) rfl)
theorem x_ap16 {K : PK} {d : Nat} {sc : Nat → Int} {ar : Nat → Int → Int} {tx oc : Nat} {rl : Nat → Option Nat} {ou : Nat → Int64} {tl : List PO} {q : Nat × Nat} {Q : Option Value → PG → Prop} {a : Int} (ra : -2147483648 ≤ a ∧ a < 2147483648) {l : List Int} {f : Int → Int} (hl : LAt (fun v => v) f l) (hr : l.length + nz1 (a / 65536 % 256) ≤ 160) {e3 : Option Value} (hk : ∀ (f : Int → Int) (e3 : Option Value) , LAt (fun v => v) f (stp1 l (a / 65536 % 256)) → RQ K (d + 0) 9 false none cd103 3 [some (.ref 1), some (.int (iI a)), some (.int (iI 8)), e3] [] (HW (usc sc 101 ((stp1 l (a / 65536 % 256)).length : Int)) (usc ar 2 f) tx oc rl ou tl, q) Q) : RQ K (d + 0) 9 false none cd103 3 [some (.ref 1), some (.int (iI a)), some (.int (iI 16)), e3] [] (HW (usc sc 101 (l.length : Int)) (usc ar 2 f) tx oc rl ou tl, q) Q := by
  have hb : 0 ≤ a / 65536 % 256 ∧ a / 65536 % 256 < 256 := by omega
  refine RQ.seg 4 (pc' := 9) (L' := [some (.ref 1), some (.int (iI a)), some (.int (iI 16)), e3]) (st' := [.int (iI 16), .int (iI a)]) (g1 := (HW (usc sc 101 (l.length : Int)) (usc ar 2 f) tx oc rl ou tl, q)) rfl ?_
  refine RQ.iushrg (a := a) (b := 16) (p := 65536) rfl rfl rfl (by decide) (by decide) ?_
  refine RQ.seg 1 (pc' := 13) (L' := [some (.ref 1), some (.int (iI a)), some (.int (iI 16)), e3]) (st' := [.int (iI 255), .int (iI (a % 4294967296 / 65536))]) (g1 := (HW (usc sc 101 (l.length : Int)) (usc ar 2 f) tx oc rl ou tl, q)) rfl ?_
  refine RQ.iandm 8 (a := a % 4294967296 / 65536) (m := 255) (p := 256) rfl rfl rfl (by decide) (by decide) (by decide) ?_
  rw [show a % 4294967296 / 65536 % 256 = a / 65536 % 256 by omega]
  refine RQ.seg 2 (pc' := 16) (L' := [some (.ref 1), some (.int (iI a)), some (.int (iI 16)), some (.int (iI (a / 65536 % 256)))]) (st' := [.int (iI (a / 65536 % 256))]) (g1 := (HW (usc sc 101 (l.length : Int)) (usc ar 2 f) tx oc rl ou tl, q)) rfl ?_
  refine RQ.if1 (a := (a / 65536 % 256)) rfl rfl rfl (by omega) (fun (h1 : a / 65536 % 256 = 0) => ?_) (fun (h1 : ¬ a / 65536 % 256 = 0) => ?_)
  · skip
    refine RQ.seg 2 (pc' := 3) (L' := [some (.ref 1), some (.int (iI a)), some (.int (iI 8)), some (.int (iI (a / 65536 % 256)))]) (st' := []) (g1 := (HW (usc sc 101 (l.length : Int)) (usc ar 2 f) tx oc rl ou tl, q)) rfl ?_
    have e9 := stp1_0 (l := l) (b := a / 65536 % 256) (by omega)
    rw [e9] at hk
    exact hk f _ hl
  · skip
    have hr2 : (l.length : Int) < 160 := by unfold nz1 at hr; rw [if_neg (by omega)] at hr; omega
    refine RQ.seg 4 (pc' := 27) (L' := [some (.ref 1), some (.int (iI a)), some (.int (iI 16)), some (.int (iI (a / 65536 % 256)))]) (st' := [.ref 2, .int (iI (l.length : Int))]) (g1 := (HW (usc sc 101 (l.length : Int)) (usc ar 2 f) tx oc rl ou tl, q)) rfl ?_
    refine RQ.alen rfl rfl ?_
    refine RQ.if2 (a := (l.length : Int)) (b := 160) rfl rfl rfl rfl (by omega) (by omega) (fun (q : 160 ≤ (l.length : Int)) => absurd q (show ¬ 160 ≤ (l.length : Int) from by omega)) (fun _ => ?_)
    refine RQ.seg 5 (pc' := 40) (L' := [some (.ref 1), some (.int (iI a)), some (.int (iI 16)), some (.int (iI (a / 65536 % 256)))]) (st' := [.int (iI (a / 65536 % 256)), .int (iI (l.length : Int)), .ref 2]) (g1 := (HW (usc sc 101 (l.length : Int)) (usc ar 2 f) tx oc rl ou tl, q)) rfl ?_
    refine RQ.iast (z := (l.length : Int)) (v := (a / 65536 % 256)) (g1 := (HW (usc sc 101 (l.length : Int)) (usc ar 2 (usz f (l.length : Int) (a / 65536 % 256))) tx oc rl ou tl, q)) rfl rfl rfl rfl (by omega) (by decide) (HWa_2 (by funext j; unfold usc; cases hb : Nat.beq j 2 <;> first | rfl | (rw [Nat.eq_of_beq_eq_true hb]; rfl))) ?_
    refine RQ.seg 5 (pc' := 48) (L' := [some (.ref 1), some (.int (iI a)), some (.int (iI 16)), some (.int (iI (a / 65536 % 256)))]) (st' := [.int ((iI (l.length : Int)) + (iI 1)), .ref 1]) (g1 := (HW (usc sc 101 (l.length : Int)) (usc ar 2 (usz f (l.length : Int) (a / 65536 % 256))) tx oc rl ou tl, q)) rfl ?_
    refine RQ.to (L' := [some (.ref 1), some (.int (iI a)), some (.int (iI 16)), some (.int (iI (a / 65536 % 256)))]) (st' := [.int (iI ((l.length : Int) + 1)), .ref 1]) rfl (by simp only [iI_add, iI_sub, iI_mul, iI_neg]) ?_
    refine RQ.seg 3 (pc' := 3) (L' := [some (.ref 1), some (.int (iI a)), some (.int (iI 8)), some (.int (iI (a / 65536 % 256)))]) (st' := []) (g1 := (HW (usc sc 101 ((l.length : Int) + 1)) (usc ar 2 (usz f (l.length : Int) (a / 65536 % 256))) tx oc rl ou tl, q)) rfl ?_
    have e9 := stp1_n (l := l) (b := a / 65536 % 256) (by omega)
    rw [e9] at hk
    exact hk _ _ (hl.ap (by omega) rfl)
theorem x_ap8 {K : PK} {d : Nat} {sc : Nat → Int} {ar : Nat → Int → Int} {tx oc : Nat} {rl : Nat → Option Nat} {ou : Nat → Int64} {tl : List PO} {q : Nat × Nat} {Q : Option Value → PG → Prop} {a : Int} (ra : -2147483648 ≤ a ∧ a < 2147483648) {l : List Int} {f : Int → Int} (hl : LAt (fun v => v) f l) (hr : l.length + nz1 (a / 256 % 256) ≤ 160) {e3 : Option Value} (hk : ∀ (f : Int → Int) (e3 : Option Value) , LAt (fun v => v) f (stp1 l (a / 256 % 256)) → RQ K (d + 0) 9 false none cd103 3 [some (.ref 1), some (.int (iI a)), some (.int (iI 0)), e3] [] (HW (usc sc 101 ((stp1 l (a / 256 % 256)).length : Int)) (usc ar 2 f) tx oc rl ou tl, q) Q) : RQ K (d + 0) 9 false none cd103 3 [some (.ref 1), some (.int (iI a)), some (.int (iI 8)), e3] [] (HW (usc sc 101 (l.length : Int)) (usc ar 2 f) tx oc rl ou tl, q) Q := by
  have hb : 0 ≤ a / 256 % 256 ∧ a / 256 % 256 < 256 := by omega
  refine RQ.seg 4 (pc' := 9) (L' := [some (.ref 1), some (.int (iI a)), some (.int (iI 8)), e3]) (st' := [.int (iI 8), .int (iI a)]) (g1 := (HW (usc sc 101 (l.length : Int)) (usc ar 2 f) tx oc rl ou tl, q)) rfl ?_
  refine RQ.iushrg (a := a) (b := 8) (p := 256) rfl rfl rfl (by decide) (by decide) ?_
  refine RQ.seg 1 (pc' := 13) (L' := [some (.ref 1), some (.int (iI a)), some (.int (iI 8)), e3]) (st' := [.int (iI 255), .int (iI (a % 4294967296 / 256))]) (g1 := (HW (usc sc 101 (l.length : Int)) (usc ar 2 f) tx oc rl ou tl, q)) rfl ?_
  refine RQ.iandm 8 (a := a % 4294967296 / 256) (m := 255) (p := 256) rfl rfl rfl (by decide) (by decide) (by decide) ?_
  rw [show a % 4294967296 / 256 % 256 = a / 256 % 256 by omega]
  refine RQ.seg 2 (pc' := 16) (L' := [some (.ref 1), some (.int (iI a)), some (.int (iI 8)), some (.int (iI (a / 256 % 256)))]) (st' := [.int (iI (a / 256 % 256))]) (g1 := (HW (usc sc 101 (l.length : Int)) (usc ar 2 f) tx oc rl ou tl, q)) rfl ?_
  refine RQ.if1 (a := (a / 256 % 256)) rfl rfl rfl (by omega) (fun (h1 : a / 256 % 256 = 0) => ?_) (fun (h1 : ¬ a / 256 % 256 = 0) => ?_)
  · skip
    refine RQ.seg 2 (pc' := 3) (L' := [some (.ref 1), some (.int (iI a)), some (.int (iI 0)), some (.int (iI (a / 256 % 256)))]) (st' := []) (g1 := (HW (usc sc 101 (l.length : Int)) (usc ar 2 f) tx oc rl ou tl, q)) rfl ?_
    have e9 := stp1_0 (l := l) (b := a / 256 % 256) (by omega)
    rw [e9] at hk
    exact hk f _ hl
  · skip
    have hr2 : (l.length : Int) < 160 := by unfold nz1 at hr; rw [if_neg (by omega)] at hr; omega
    refine RQ.seg 4 (pc' := 27) (L' := [some (.ref 1), some (.int (iI a)), some (.int (iI 8)), some (.int (iI (a / 256 % 256)))]) (st' := [.ref 2, .int (iI (l.length : Int))]) (g1 := (HW (usc sc 101 (l.length : Int)) (usc ar 2 f) tx oc rl ou tl, q)) rfl ?_
    refine RQ.alen rfl rfl ?_
    refine RQ.if2 (a := (l.length : Int)) (b := 160) rfl rfl rfl rfl (by omega) (by omega) (fun (q : 160 ≤ (l.length : Int)) => absurd q (show ¬ 160 ≤ (l.length : Int) from by omega)) (fun _ => ?_)
    refine RQ.seg 5 (pc' := 40) (L' := [some (.ref 1), some (.int (iI a)), some (.int (iI 8)), some (.int (iI (a / 256 % 256)))]) (st' := [.int (iI (a / 256 % 256)), .int (iI (l.length : Int)), .ref 2]) (g1 := (HW (usc sc 101 (l.length : Int)) (usc ar 2 f) tx oc rl ou tl, q)) rfl ?_
    refine RQ.iast (z := (l.length : Int)) (v := (a / 256 % 256)) (g1 := (HW (usc sc 101 (l.length : Int)) (usc ar 2 (usz f (l.length : Int) (a / 256 % 256))) tx oc rl ou tl, q)) rfl rfl rfl rfl (by omega) (by decide) (HWa_2 (by funext j; unfold usc; cases hb : Nat.beq j 2 <;> first | rfl | (rw [Nat.eq_of_beq_eq_true hb]; rfl))) ?_
    refine RQ.seg 5 (pc' := 48) (L' := [some (.ref 1), some (.int (iI a)), some (.int (iI 8)), some (.int (iI (a / 256 % 256)))]) (st' := [.int ((iI (l.length : Int)) + (iI 1)), .ref 1]) (g1 := (HW (usc sc 101 (l.length : Int)) (usc ar 2 (usz f (l.length : Int) (a / 256 % 256))) tx oc rl ou tl, q)) rfl ?_
    refine RQ.to (L' := [some (.ref 1), some (.int (iI a)), some (.int (iI 8)), some (.int (iI (a / 256 % 256)))]) (st' := [.int (iI ((l.length : Int) + 1)), .ref 1]) rfl (by simp only [iI_add, iI_sub, iI_mul, iI_neg]) ?_
    refine RQ.seg 3 (pc' := 3) (L' := [some (.ref 1), some (.int (iI a)), some (.int (iI 0)), some (.int (iI (a / 256 % 256)))]) (st' := []) (g1 := (HW (usc sc 101 ((l.length : Int) + 1)) (usc ar 2 (usz f (l.length : Int) (a / 256 % 256))) tx oc rl ou tl, q)) rfl ?_
    have e9 := stp1_n (l := l) (b := a / 256 % 256) (by omega)
    rw [e9] at hk
    exact hk _ _ (hl.ap (by omega) rfl)
theorem x_ap0 {K : PK} {d : Nat} {sc : Nat → Int} {ar : Nat → Int → Int} {tx oc : Nat} {rl : Nat → Option Nat} {ou : Nat → Int64} {tl : List PO} {q : Nat × Nat} {Q : Option Value → PG → Prop} {a : Int} (ra : -2147483648 ≤ a ∧ a < 2147483648) {l : List Int} {f : Int → Int} (hl : LAt (fun v => v) f l) (hr : l.length + nz1 (a / 1 % 256) ≤ 160) {e3 : Option Value} (hk : ∀ (f : Int → Int) (e3 : Option Value) , LAt (fun v => v) f (stp1 l (a / 1 % 256)) → RQ K (d + 0) 9 false none cd103 3 [some (.ref 1), some (.int (iI a)), some (.int (iI (-8))), e3] [] (HW (usc sc 101 ((stp1 l (a / 1 % 256)).length : Int)) (usc ar 2 f) tx oc rl ou tl, q) Q) : RQ K (d + 0) 9 false none cd103 3 [some (.ref 1), some (.int (iI a)), some (.int (iI 0)), e3] [] (HW (usc sc 101 (l.length : Int)) (usc ar 2 f) tx oc rl ou tl, q) Q := by
  have hb : 0 ≤ a / 1 % 256 ∧ a / 1 % 256 < 256 := by omega
  refine RQ.seg 4 (pc' := 9) (L' := [some (.ref 1), some (.int (iI a)), some (.int (iI 0)), e3]) (st' := [.int (iI 0), .int (iI a)]) (g1 := (HW (usc sc 101 (l.length : Int)) (usc ar 2 f) tx oc rl ou tl, q)) rfl ?_
  refine RQ.iushrg (a := a) (b := 0) (p := 1) rfl rfl rfl (by decide) (by decide) ?_
  refine RQ.seg 1 (pc' := 13) (L' := [some (.ref 1), some (.int (iI a)), some (.int (iI 0)), e3]) (st' := [.int (iI 255), .int (iI (a % 4294967296 / 1))]) (g1 := (HW (usc sc 101 (l.length : Int)) (usc ar 2 f) tx oc rl ou tl, q)) rfl ?_
  refine RQ.iandm 8 (a := a % 4294967296 / 1) (m := 255) (p := 256) rfl rfl rfl (by decide) (by decide) (by decide) ?_
  rw [show a % 4294967296 / 1 % 256 = a / 1 % 256 by omega]
  refine RQ.seg 2 (pc' := 16) (L' := [some (.ref 1), some (.int (iI a)), some (.int (iI 0)), some (.int (iI (a / 1 % 256)))]) (st' := [.int (iI (a / 1 % 256))]) (g1 := (HW (usc sc 101 (l.length : Int)) (usc ar 2 f) tx oc rl ou tl, q)) rfl ?_
  refine RQ.if1 (a := (a / 1 % 256)) rfl rfl rfl (by omega) (fun (h1 : a / 1 % 256 = 0) => ?_) (fun (h1 : ¬ a / 1 % 256 = 0) => ?_)
  · skip
    refine RQ.seg 2 (pc' := 3) (L' := [some (.ref 1), some (.int (iI a)), some (.int (iI (-8))), some (.int (iI (a / 1 % 256)))]) (st' := []) (g1 := (HW (usc sc 101 (l.length : Int)) (usc ar 2 f) tx oc rl ou tl, q)) rfl ?_
    have e9 := stp1_0 (l := l) (b := a / 1 % 256) (by omega)
    rw [e9] at hk
    exact hk f _ hl
  · skip
    have hr2 : (l.length : Int) < 160 := by unfold nz1 at hr; rw [if_neg (by omega)] at hr; omega
    refine RQ.seg 4 (pc' := 27) (L' := [some (.ref 1), some (.int (iI a)), some (.int (iI 0)), some (.int (iI (a / 1 % 256)))]) (st' := [.ref 2, .int (iI (l.length : Int))]) (g1 := (HW (usc sc 101 (l.length : Int)) (usc ar 2 f) tx oc rl ou tl, q)) rfl ?_
    refine RQ.alen rfl rfl ?_
    refine RQ.if2 (a := (l.length : Int)) (b := 160) rfl rfl rfl rfl (by omega) (by omega) (fun (q : 160 ≤ (l.length : Int)) => absurd q (show ¬ 160 ≤ (l.length : Int) from by omega)) (fun _ => ?_)
    refine RQ.seg 5 (pc' := 40) (L' := [some (.ref 1), some (.int (iI a)), some (.int (iI 0)), some (.int (iI (a / 1 % 256)))]) (st' := [.int (iI (a / 1 % 256)), .int (iI (l.length : Int)), .ref 2]) (g1 := (HW (usc sc 101 (l.length : Int)) (usc ar 2 f) tx oc rl ou tl, q)) rfl ?_
    refine RQ.iast (z := (l.length : Int)) (v := (a / 1 % 256)) (g1 := (HW (usc sc 101 (l.length : Int)) (usc ar 2 (usz f (l.length : Int) (a / 1 % 256))) tx oc rl ou tl, q)) rfl rfl rfl rfl (by omega) (by decide) (HWa_2 (by funext j; unfold usc; cases hb : Nat.beq j 2 <;> first | rfl | (rw [Nat.eq_of_beq_eq_true hb]; rfl))) ?_
    refine RQ.seg 5 (pc' := 48) (L' := [some (.ref 1), some (.int (iI a)), some (.int (iI 0)), some (.int (iI (a / 1 % 256)))]) (st' := [.int ((iI (l.length : Int)) + (iI 1)), .ref 1]) (g1 := (HW (usc sc 101 (l.length : Int)) (usc ar 2 (usz f (l.length : Int) (a / 1 % 256))) tx oc rl ou tl, q)) rfl ?_
    refine RQ.to (L' := [some (.ref 1), some (.int (iI a)), some (.int (iI 0)), some (.int (iI (a / 1 % 256)))]) (st' := [.int (iI ((l.length : Int) + 1)), .ref 1]) rfl (by simp only [iI_add, iI_sub, iI_mul, iI_neg]) ?_
    refine RQ.seg 3 (pc' := 3) (L' := [some (.ref 1), some (.int (iI a)), some (.int (iI (-8))), some (.int (iI (a / 1 % 256)))]) (st' := []) (g1 := (HW (usc sc 101 ((l.length : Int) + 1)) (usc ar 2 (usz f (l.length : Int) (a / 1 % 256))) tx oc rl ou tl, q)) rfl ?_
    have e9 := stp1_n (l := l) (b := a / 1 % 256) (by omega)
    rw [e9] at hk
    exact hk _ _ (hl.ap (by omega) rfl)
theorem x_append {K : PK} {d : Nat} {sc : Nat → Int} {ar : Nat → Int → Int} {tx oc : Nat} {rl : Nat → Option Nat} {ou : Nat → Int64} {tl : List PO} {q : Nat × Nat} {a : Int} (ra : -2147483648 ≤ a ∧ a < 2147483648) {l : List Int} (hs : sc 101 = (l.length : Int)) (hl : LAt (fun v => v) (ar 2) l) (hr : l.length + cnt a ≤ 160) : CQ K (d + 1) 103 [.ref 1, .int (iI a)] (HW sc ar tx oc rl ou tl, q) (fun r g' => r = none ∧ ∃ f, g' = (HW (usc sc 101 ((apw l a).length : Int)) (usc ar 2 f) tx oc rl ou tl, q) ∧ LAt (fun v => v) f (apw l a)) := by
  refine CQ.of (own := 9) (n := 4) (ini := false) (rt := none) (cd := cd103) (by decide +kernel) rfl (by decide +kernel) rfl (Nat.le_of_ble_eq_true rfl) ?_
  refine RQ.seg 2 (pc' := 3) (L' := [some (.ref 1), some (.int (iI a)), some (.int (iI 24)), none]) (st' := []) (g1 := (HW sc ar tx oc rl ou tl, q)) rfl ?_
  refine RQ.hp (g1 := (HW (usc sc 101 (l.length : Int)) (usc ar 2 (ar 2)) tx oc rl ou tl, q)) (HW_e (by rw [← hs]; exact (usc_id sc 101).symm) (usc_id ar 2).symm) ?_
  have hc := hr; unfold cnt at hc
  have q1 := nz1_r (a / 16777216 % 256); have q2 := nz1_r (a / 65536 % 256); have q3 := nz1_r (a / 256 % 256); have q4 := nz1_r (a / 1 % 256)
  refine x_ap24 ra hl (by (repeat rw [stp1_len]); omega) (fun f1 e1 h1 => ?_)
  refine x_ap16 ra h1 (by (repeat rw [stp1_len]); omega) (fun f2 e2 h2 => ?_)
  refine x_ap8 ra h2 (by (repeat rw [stp1_len]); omega) (fun f3 e3 h3 => ?_)
  refine x_ap0 ra h3 (by (repeat rw [stp1_len]); omega) (fun f4 e4 h4 => ?_)
  refine RQ.seg 2 (pc' := 57) (L' := [some (.ref 1), some (.int (iI a)), some (.int (iI (-8))), e4]) (st' := []) (g1 := (HW (usc sc 101 ((apw l a).length : Int)) (usc ar 2 f4) tx oc rl ou tl, q)) rfl ?_
  refine RQ.ret rfl rfl ?_
  exact ⟨rfl, _, rfl, h4⟩
theorem m_ap24 {K : PK} {d : Nat} {sc : Nat → Int} {ar : Nat → Int → Int} {tx oc : Nat} {rl : Nat → Option Nat} {ou : Nat → Int64} {tl : List PO} {q : Nat × Nat} {Q : Option Value → PG → Prop} {a : Int} (ra : -2147483648 ≤ a ∧ a < 2147483648) {l : List Int} {f : Int → Int} (hl : LAt sgb f l) (hr : l.length + nz1 (a / 16777216 % 256) ≤ 160) (hk : ∀ (f : Int → Int) , LAt sgb f (stp1 l (a / 16777216 % 256)) → RQ K (d + 0) 11 false none cd154 3 [some (.ref 80), some (.int (iI a)), some (.int (iI 16))] [] (HW (usc sc 8006 ((stp1 l (a / 16777216 % 256)).length : Int)) (usc ar 81 f) tx oc rl ou tl, q) Q) : RQ K (d + 0) 11 false none cd154 3 [some (.ref 80), some (.int (iI a)), some (.int (iI 24))] [] (HW (usc sc 8006 (l.length : Int)) (usc ar 81 f) tx oc rl ou tl, q) Q := by
  have hb : 0 ≤ a / 16777216 % 256 ∧ a / 16777216 % 256 < 256 := by omega
  refine RQ.seg 4 (pc' := 9) (L' := [some (.ref 80), some (.int (iI a)), some (.int (iI 24))]) (st' := [.int (iI 24), .int (iI a)]) (g1 := (HW (usc sc 8006 (l.length : Int)) (usc ar 81 f) tx oc rl ou tl, q)) rfl ?_
  refine RQ.ishr (a := a) (b := 24) (p := 16777216) rfl rfl rfl (by omega) (by omega) (by decide) ?_
  refine RQ.seg 1 (pc' := 13) (L' := [some (.ref 80), some (.int (iI a)), some (.int (iI 24))]) (st' := [.int (iI 255), .int (iI (a / 16777216))]) (g1 := (HW (usc sc 8006 (l.length : Int)) (usc ar 81 f) tx oc rl ou tl, q)) rfl ?_
  refine RQ.iandm 8 (a := (a / 16777216)) (m := 255) (p := 256) rfl rfl rfl (by decide) (by decide) (by decide) ?_
  refine RQ.if1 (a := ((a / 16777216) % 256)) rfl rfl rfl (by omega) (fun (h1 : (a / 16777216) % 256 ≠ 0) => ?_) (fun (h1 : ¬ (a / 16777216) % 256 ≠ 0) => ?_)
  · skip
    have hr2 : (l.length : Int) < 160 := by unfold nz1 at hr; rw [if_neg (by omega)] at hr; omega
    refine RQ.seg 6 (pc' := 30) (L' := [some (.ref 80), some (.int (iI a)), some (.int (iI 24))]) (st' := [.int (iI 24), .int (iI a), .int (iI (l.length : Int)), .ref 81]) (g1 := (HW (usc sc 8006 (l.length : Int)) (usc ar 81 f) tx oc rl ou tl, q)) rfl ?_
    refine RQ.ishr (a := a) (b := 24) (p := 16777216) rfl rfl rfl (by omega) (by omega) (by decide) ?_
    refine RQ.i2b (a := (a / 16777216)) rfl rfl ?_
    refine RQ.bast (z := (l.length : Int)) (v := (sgb (a / 16777216 % 256))) (g1 := (HW (usc sc 8006 (l.length : Int)) (usc ar 81 (usz f (l.length : Int) (sgb (a / 16777216 % 256)))) tx oc rl ou tl, q)) rfl rfl (by rw [i8_z, sgb_m hb]) rfl (by omega) (by decide) (HWa_81 (by funext j; unfold usc; cases hb : Nat.beq j 81 <;> first | rfl | (rw [Nat.eq_of_beq_eq_true hb]; rfl))) ?_
    refine RQ.seg 5 (pc' := 40) (L' := [some (.ref 80), some (.int (iI a)), some (.int (iI 24))]) (st' := [.int ((iI (l.length : Int)) + (iI 1)), .ref 80]) (g1 := (HW (usc sc 8006 (l.length : Int)) (usc ar 81 (usz f (l.length : Int) (sgb (a / 16777216 % 256)))) tx oc rl ou tl, q)) rfl ?_
    refine RQ.to (L' := [some (.ref 80), some (.int (iI a)), some (.int (iI 24))]) (st' := [.int (iI ((l.length : Int) + 1)), .ref 80]) rfl (by simp only [iI_add, iI_sub, iI_mul, iI_neg]) ?_
    refine RQ.seg 3 (pc' := 3) (L' := [some (.ref 80), some (.int (iI a)), some (.int (iI 16))]) (st' := []) (g1 := (HW (usc sc 8006 ((l.length : Int) + 1)) (usc ar 81 (usz f (l.length : Int) (sgb (a / 16777216 % 256)))) tx oc rl ou tl, q)) rfl ?_
    have e9 := stp1_n (l := l) (b := a / 16777216 % 256) (by omega)
    rw [e9] at hk
    exact hk _ (hl.ap (by omega) rfl)
  · skip
    refine RQ.seg 3 (pc' := 3) (L' := [some (.ref 80), some (.int (iI a)), some (.int (iI 16))]) (st' := []) (g1 := (HW (usc sc 8006 (l.length : Int)) (usc ar 81 f) tx oc rl ou tl, q)) rfl ?_
    have e9 := stp1_0 (l := l) (b := a / 16777216 % 256) (by omega)
    rw [e9] at hk
    exact hk f hl
theorem m_ap16 {K : PK} {d : Nat} {sc : Nat → Int} {ar : Nat → Int → Int} {tx oc : Nat} {rl : Nat → Option Nat} {ou : Nat → Int64} {tl : List PO} {q : Nat × Nat} {Q : Option Value → PG → Prop} {a : Int} (ra : -2147483648 ≤ a ∧ a < 2147483648) {l : List Int} {f : Int → Int} (hl : LAt sgb f l) (hr : l.length + nz1 (a / 65536 % 256) ≤ 160) (hk : ∀ (f : Int → Int) , LAt sgb f (stp1 l (a / 65536 % 256)) → RQ K (d + 0) 11 false none cd154 3 [some (.ref 80), some (.int (iI a)), some (.int (iI 8))] [] (HW (usc sc 8006 ((stp1 l (a / 65536 % 256)).length : Int)) (usc ar 81 f) tx oc rl ou tl, q) Q) : RQ K (d + 0) 11 false none cd154 3 [some (.ref 80), some (.int (iI a)), some (.int (iI 16))] [] (HW (usc sc 8006 (l.length : Int)) (usc ar 81 f) tx oc rl ou tl, q) Q := by
  have hb : 0 ≤ a / 65536 % 256 ∧ a / 65536 % 256 < 256 := by omega
  refine RQ.seg 4 (pc' := 9) (L' := [some (.ref 80), some (.int (iI a)), some (.int (iI 16))]) (st' := [.int (iI 16), .int (iI a)]) (g1 := (HW (usc sc 8006 (l.length : Int)) (usc ar 81 f) tx oc rl ou tl, q)) rfl ?_
  refine RQ.ishr (a := a) (b := 16) (p := 65536) rfl rfl rfl (by omega) (by omega) (by decide) ?_
  refine RQ.seg 1 (pc' := 13) (L' := [some (.ref 80), some (.int (iI a)), some (.int (iI 16))]) (st' := [.int (iI 255), .int (iI (a / 65536))]) (g1 := (HW (usc sc 8006 (l.length : Int)) (usc ar 81 f) tx oc rl ou tl, q)) rfl ?_
  refine RQ.iandm 8 (a := (a / 65536)) (m := 255) (p := 256) rfl rfl rfl (by decide) (by decide) (by decide) ?_
  refine RQ.if1 (a := ((a / 65536) % 256)) rfl rfl rfl (by omega) (fun (h1 : (a / 65536) % 256 ≠ 0) => ?_) (fun (h1 : ¬ (a / 65536) % 256 ≠ 0) => ?_)
  · skip
    have hr2 : (l.length : Int) < 160 := by unfold nz1 at hr; rw [if_neg (by omega)] at hr; omega
    refine RQ.seg 6 (pc' := 30) (L' := [some (.ref 80), some (.int (iI a)), some (.int (iI 16))]) (st' := [.int (iI 16), .int (iI a), .int (iI (l.length : Int)), .ref 81]) (g1 := (HW (usc sc 8006 (l.length : Int)) (usc ar 81 f) tx oc rl ou tl, q)) rfl ?_
    refine RQ.ishr (a := a) (b := 16) (p := 65536) rfl rfl rfl (by omega) (by omega) (by decide) ?_
    refine RQ.i2b (a := (a / 65536)) rfl rfl ?_
    refine RQ.bast (z := (l.length : Int)) (v := (sgb (a / 65536 % 256))) (g1 := (HW (usc sc 8006 (l.length : Int)) (usc ar 81 (usz f (l.length : Int) (sgb (a / 65536 % 256)))) tx oc rl ou tl, q)) rfl rfl (by rw [i8_z, sgb_m hb]) rfl (by omega) (by decide) (HWa_81 (by funext j; unfold usc; cases hb : Nat.beq j 81 <;> first | rfl | (rw [Nat.eq_of_beq_eq_true hb]; rfl))) ?_
    refine RQ.seg 5 (pc' := 40) (L' := [some (.ref 80), some (.int (iI a)), some (.int (iI 16))]) (st' := [.int ((iI (l.length : Int)) + (iI 1)), .ref 80]) (g1 := (HW (usc sc 8006 (l.length : Int)) (usc ar 81 (usz f (l.length : Int) (sgb (a / 65536 % 256)))) tx oc rl ou tl, q)) rfl ?_
    refine RQ.to (L' := [some (.ref 80), some (.int (iI a)), some (.int (iI 16))]) (st' := [.int (iI ((l.length : Int) + 1)), .ref 80]) rfl (by simp only [iI_add, iI_sub, iI_mul, iI_neg]) ?_
    refine RQ.seg 3 (pc' := 3) (L' := [some (.ref 80), some (.int (iI a)), some (.int (iI 8))]) (st' := []) (g1 := (HW (usc sc 8006 ((l.length : Int) + 1)) (usc ar 81 (usz f (l.length : Int) (sgb (a / 65536 % 256)))) tx oc rl ou tl, q)) rfl ?_
    have e9 := stp1_n (l := l) (b := a / 65536 % 256) (by omega)
    rw [e9] at hk
    exact hk _ (hl.ap (by omega) rfl)
  · skip
    refine RQ.seg 3 (pc' := 3) (L' := [some (.ref 80), some (.int (iI a)), some (.int (iI 8))]) (st' := []) (g1 := (HW (usc sc 8006 (l.length : Int)) (usc ar 81 f) tx oc rl ou tl, q)) rfl ?_
    have e9 := stp1_0 (l := l) (b := a / 65536 % 256) (by omega)
    rw [e9] at hk
    exact hk f hl
theorem m_ap8 {K : PK} {d : Nat} {sc : Nat → Int} {ar : Nat → Int → Int} {tx oc : Nat} {rl : Nat → Option Nat} {ou : Nat → Int64} {tl : List PO} {q : Nat × Nat} {Q : Option Value → PG → Prop} {a : Int} (ra : -2147483648 ≤ a ∧ a < 2147483648) {l : List Int} {f : Int → Int} (hl : LAt sgb f l) (hr : l.length + nz1 (a / 256 % 256) ≤ 160) (hk : ∀ (f : Int → Int) , LAt sgb f (stp1 l (a / 256 % 256)) → RQ K (d + 0) 11 false none cd154 3 [some (.ref 80), some (.int (iI a)), some (.int (iI 0))] [] (HW (usc sc 8006 ((stp1 l (a / 256 % 256)).length : Int)) (usc ar 81 f) tx oc rl ou tl, q) Q) : RQ K (d + 0) 11 false none cd154 3 [some (.ref 80), some (.int (iI a)), some (.int (iI 8))] [] (HW (usc sc 8006 (l.length : Int)) (usc ar 81 f) tx oc rl ou tl, q) Q := by
  have hb : 0 ≤ a / 256 % 256 ∧ a / 256 % 256 < 256 := by omega
  refine RQ.seg 4 (pc' := 9) (L' := [some (.ref 80), some (.int (iI a)), some (.int (iI 8))]) (st' := [.int (iI 8), .int (iI a)]) (g1 := (HW (usc sc 8006 (l.length : Int)) (usc ar 81 f) tx oc rl ou tl, q)) rfl ?_
  refine RQ.ishr (a := a) (b := 8) (p := 256) rfl rfl rfl (by omega) (by omega) (by decide) ?_
  refine RQ.seg 1 (pc' := 13) (L' := [some (.ref 80), some (.int (iI a)), some (.int (iI 8))]) (st' := [.int (iI 255), .int (iI (a / 256))]) (g1 := (HW (usc sc 8006 (l.length : Int)) (usc ar 81 f) tx oc rl ou tl, q)) rfl ?_
  refine RQ.iandm 8 (a := (a / 256)) (m := 255) (p := 256) rfl rfl rfl (by decide) (by decide) (by decide) ?_
  refine RQ.if1 (a := ((a / 256) % 256)) rfl rfl rfl (by omega) (fun (h1 : (a / 256) % 256 ≠ 0) => ?_) (fun (h1 : ¬ (a / 256) % 256 ≠ 0) => ?_)
  · skip
    have hr2 : (l.length : Int) < 160 := by unfold nz1 at hr; rw [if_neg (by omega)] at hr; omega
    refine RQ.seg 6 (pc' := 30) (L' := [some (.ref 80), some (.int (iI a)), some (.int (iI 8))]) (st' := [.int (iI 8), .int (iI a), .int (iI (l.length : Int)), .ref 81]) (g1 := (HW (usc sc 8006 (l.length : Int)) (usc ar 81 f) tx oc rl ou tl, q)) rfl ?_
    refine RQ.ishr (a := a) (b := 8) (p := 256) rfl rfl rfl (by omega) (by omega) (by decide) ?_
    refine RQ.i2b (a := (a / 256)) rfl rfl ?_
    refine RQ.bast (z := (l.length : Int)) (v := (sgb (a / 256 % 256))) (g1 := (HW (usc sc 8006 (l.length : Int)) (usc ar 81 (usz f (l.length : Int) (sgb (a / 256 % 256)))) tx oc rl ou tl, q)) rfl rfl (by rw [i8_z, sgb_m hb]) rfl (by omega) (by decide) (HWa_81 (by funext j; unfold usc; cases hb : Nat.beq j 81 <;> first | rfl | (rw [Nat.eq_of_beq_eq_true hb]; rfl))) ?_
    refine RQ.seg 5 (pc' := 40) (L' := [some (.ref 80), some (.int (iI a)), some (.int (iI 8))]) (st' := [.int ((iI (l.length : Int)) + (iI 1)), .ref 80]) (g1 := (HW (usc sc 8006 (l.length : Int)) (usc ar 81 (usz f (l.length : Int) (sgb (a / 256 % 256)))) tx oc rl ou tl, q)) rfl ?_
    refine RQ.to (L' := [some (.ref 80), some (.int (iI a)), some (.int (iI 8))]) (st' := [.int (iI ((l.length : Int) + 1)), .ref 80]) rfl (by simp only [iI_add, iI_sub, iI_mul, iI_neg]) ?_
    refine RQ.seg 3 (pc' := 3) (L' := [some (.ref 80), some (.int (iI a)), some (.int (iI 0))]) (st' := []) (g1 := (HW (usc sc 8006 ((l.length : Int) + 1)) (usc ar 81 (usz f (l.length : Int) (sgb (a / 256 % 256)))) tx oc rl ou tl, q)) rfl ?_
    have e9 := stp1_n (l := l) (b := a / 256 % 256) (by omega)
    rw [e9] at hk
    exact hk _ (hl.ap (by omega) rfl)
  · skip
    refine RQ.seg 3 (pc' := 3) (L' := [some (.ref 80), some (.int (iI a)), some (.int (iI 0))]) (st' := []) (g1 := (HW (usc sc 8006 (l.length : Int)) (usc ar 81 f) tx oc rl ou tl, q)) rfl ?_
    have e9 := stp1_0 (l := l) (b := a / 256 % 256) (by omega)
    rw [e9] at hk
    exact hk f hl
theorem m_ap0 {K : PK} {d : Nat} {sc : Nat → Int} {ar : Nat → Int → Int} {tx oc : Nat} {rl : Nat → Option Nat} {ou : Nat → Int64} {tl : List PO} {q : Nat × Nat} {Q : Option Value → PG → Prop} {a : Int} (ra : -2147483648 ≤ a ∧ a < 2147483648) {l : List Int} {f : Int → Int} (hl : LAt sgb f l) (hr : l.length + nz1 (a / 1 % 256) ≤ 160) (hk : ∀ (f : Int → Int) , LAt sgb f (stp1 l (a / 1 % 256)) → RQ K (d + 0) 11 false none cd154 3 [some (.ref 80), some (.int (iI a)), some (.int (iI (-8)))] [] (HW (usc sc 8006 ((stp1 l (a / 1 % 256)).length : Int)) (usc ar 81 f) tx oc rl ou tl, q) Q) : RQ K (d + 0) 11 false none cd154 3 [some (.ref 80), some (.int (iI a)), some (.int (iI 0))] [] (HW (usc sc 8006 (l.length : Int)) (usc ar 81 f) tx oc rl ou tl, q) Q := by
  have hb : 0 ≤ a / 1 % 256 ∧ a / 1 % 256 < 256 := by omega
  refine RQ.seg 4 (pc' := 9) (L' := [some (.ref 80), some (.int (iI a)), some (.int (iI 0))]) (st' := [.int (iI 0), .int (iI a)]) (g1 := (HW (usc sc 8006 (l.length : Int)) (usc ar 81 f) tx oc rl ou tl, q)) rfl ?_
  refine RQ.ishr (a := a) (b := 0) (p := 1) rfl rfl rfl (by omega) (by omega) (by decide) ?_
  refine RQ.seg 1 (pc' := 13) (L' := [some (.ref 80), some (.int (iI a)), some (.int (iI 0))]) (st' := [.int (iI 255), .int (iI (a / 1))]) (g1 := (HW (usc sc 8006 (l.length : Int)) (usc ar 81 f) tx oc rl ou tl, q)) rfl ?_
  refine RQ.iandm 8 (a := (a / 1)) (m := 255) (p := 256) rfl rfl rfl (by decide) (by decide) (by decide) ?_
  refine RQ.if1 (a := ((a / 1) % 256)) rfl rfl rfl (by omega) (fun (h1 : (a / 1) % 256 ≠ 0) => ?_) (fun (h1 : ¬ (a / 1) % 256 ≠ 0) => ?_)
  · skip
    have hr2 : (l.length : Int) < 160 := by unfold nz1 at hr; rw [if_neg (by omega)] at hr; omega
    refine RQ.seg 6 (pc' := 30) (L' := [some (.ref 80), some (.int (iI a)), some (.int (iI 0))]) (st' := [.int (iI 0), .int (iI a), .int (iI (l.length : Int)), .ref 81]) (g1 := (HW (usc sc 8006 (l.length : Int)) (usc ar 81 f) tx oc rl ou tl, q)) rfl ?_
    refine RQ.ishr (a := a) (b := 0) (p := 1) rfl rfl rfl (by omega) (by omega) (by decide) ?_
    refine RQ.i2b (a := (a / 1)) rfl rfl ?_
    refine RQ.bast (z := (l.length : Int)) (v := (sgb (a / 1 % 256))) (g1 := (HW (usc sc 8006 (l.length : Int)) (usc ar 81 (usz f (l.length : Int) (sgb (a / 1 % 256)))) tx oc rl ou tl, q)) rfl rfl (by rw [i8_z, sgb_m hb]) rfl (by omega) (by decide) (HWa_81 (by funext j; unfold usc; cases hb : Nat.beq j 81 <;> first | rfl | (rw [Nat.eq_of_beq_eq_true hb]; rfl))) ?_
    refine RQ.seg 5 (pc' := 40) (L' := [some (.ref 80), some (.int (iI a)), some (.int (iI 0))]) (st' := [.int ((iI (l.length : Int)) + (iI 1)), .ref 80]) (g1 := (HW (usc sc 8006 (l.length : Int)) (usc ar 81 (usz f (l.length : Int) (sgb (a / 1 % 256)))) tx oc rl ou tl, q)) rfl ?_
    refine RQ.to (L' := [some (.ref 80), some (.int (iI a)), some (.int (iI 0))]) (st' := [.int (iI ((l.length : Int) + 1)), .ref 80]) rfl (by simp only [iI_add, iI_sub, iI_mul, iI_neg]) ?_
    refine RQ.seg 3 (pc' := 3) (L' := [some (.ref 80), some (.int (iI a)), some (.int (iI (-8)))]) (st' := []) (g1 := (HW (usc sc 8006 ((l.length : Int) + 1)) (usc ar 81 (usz f (l.length : Int) (sgb (a / 1 % 256)))) tx oc rl ou tl, q)) rfl ?_
    have e9 := stp1_n (l := l) (b := a / 1 % 256) (by omega)
    rw [e9] at hk
    exact hk _ (hl.ap (by omega) rfl)
  · skip
    refine RQ.seg 3 (pc' := 3) (L' := [some (.ref 80), some (.int (iI a)), some (.int (iI (-8)))]) (st' := []) (g1 := (HW (usc sc 8006 (l.length : Int)) (usc ar 81 f) tx oc rl ou tl, q)) rfl ?_
    have e9 := stp1_0 (l := l) (b := a / 1 % 256) (by omega)
    rw [e9] at hk
    exact hk f hl
theorem m_put {K : PK} {d : Nat} {sc : Nat → Int} {ar : Nat → Int → Int} {tx oc : Nat} {rl : Nat → Option Nat} {ou : Nat → Int64} {tl : List PO} {q : Nat × Nat} {a : Int} (ra : -2147483648 ≤ a ∧ a < 2147483648) {l : List Int} (hs : sc 8006 = (l.length : Int)) (hl : LAt sgb (ar 81) l) (hr : l.length + cnt a ≤ 160) : CQ K (d + 1) 154 [.ref 80, .int (iI a)] (HW sc ar tx oc rl ou tl, q) (fun r g' => r = none ∧ ∃ f, g' = (HW (usc sc 8006 ((apw l a).length : Int)) (usc ar 81 f) tx oc rl ou tl, q) ∧ LAt sgb f (apw l a)) := by
  refine CQ.of (own := 11) (n := 3) (ini := false) (rt := none) (cd := cd154) (by decide +kernel) rfl (by decide +kernel) rfl (Nat.le_of_ble_eq_true rfl) ?_
  refine RQ.seg 2 (pc' := 3) (L' := [some (.ref 80), some (.int (iI a)), some (.int (iI 24))]) (st' := []) (g1 := (HW sc ar tx oc rl ou tl, q)) rfl ?_
  refine RQ.hp (g1 := (HW (usc sc 8006 (l.length : Int)) (usc ar 81 (ar 81)) tx oc rl ou tl, q)) (HW_e (by rw [← hs]; exact (usc_id sc 8006).symm) (usc_id ar 81).symm) ?_
  have hc := hr; unfold cnt at hc
  have q1 := nz1_r (a / 16777216 % 256); have q2 := nz1_r (a / 65536 % 256); have q3 := nz1_r (a / 256 % 256); have q4 := nz1_r (a / 1 % 256)
  refine m_ap24 ra hl (by (repeat rw [stp1_len]); omega) (fun f1 h1 => ?_)
  refine m_ap16 ra h1 (by (repeat rw [stp1_len]); omega) (fun f2 h2 => ?_)
  refine m_ap8 ra h2 (by (repeat rw [stp1_len]); omega) (fun f3 h3 => ?_)
  refine m_ap0 ra h3 (by (repeat rw [stp1_len]); omega) (fun f4 h4 => ?_)
  refine RQ.seg 2 (pc' := 49) (L' := [some (.ref 80), some (.int (iI a)), some (.int (iI (-8)))]) (st' := []) (g1 := (HW (usc sc 8006 ((apw l a).length : Int)) (usc ar 81 f4) tx oc rl ou tl, q)) rfl ?_
  refine RQ.ret rfl rfl ?_
  exact ⟨rfl, _, rfl, h4⟩
theorem x_feed {K : PK} {d : Nat} {sc : Nat → Int} {ar : Nat → Int → Int} {tx oc : Nat} {rl : Nat → Option Nat} {ou : Nat → Int64} {tl : List PO} {q : Nat × Nat} {a b c d0 e0 : Int} (ra : -2147483648 ≤ a ∧ a < 2147483648) (rb : -2147483648 ≤ b ∧ b < 2147483648) (rc : -2147483648 ≤ c ∧ c < 2147483648) (rd0 : -2147483648 ≤ d0 ∧ d0 < 2147483648) (re0 : -2147483648 ≤ e0 ∧ e0 < 2147483648) {l : List Int} (hlo : l.length ≤ 160) (hs : sc 101 = (l.length : Int)) (hl : LAt (fun v => v) (ar 2) l) : CQ K (d + 2) 105 [.ref 0, .int (iI a), .int (iI b), .int (iI c), .int (iI d0), .int (iI e0)] (HW sc ar tx oc rl ou tl, q) (fun r g' => r = some (.int (iI (sFeed l a b c d0 e0))) ∧ ∃ sc' ar', g' = (HW sc' ar' tx oc rl ou tl, q) ∧ Same [101] sc sc' ∧ Same [2] ar ar' ∧ sc' 101 = ((fdl l a b c d0 e0).length : Int) ∧ LAt (fun v => v) (ar' 2) (fdl l a b c d0 e0)) := by
  refine CQ.of (own := 10) (n := 7) (ini := false) (rt := (some .int)) (cd := cd105) (by decide +kernel) rfl (by decide +kernel) rfl (Nat.le_of_ble_eq_true rfl) ?_
  refine RQ.seg 1 (pc' := 1) (L' := [some (.ref 0), some (.int (iI a)), some (.int (iI b)), some (.int (iI c)), some (.int (iI d0)), some (.int (iI e0)), none]) (st' := [.int (iI a)]) (g1 := (HW sc ar tx oc rl ou tl, q)) rfl ?_
  have hca := cnt_r a
  refine RQ.call rfl rfl (x_signs ra) ?_
  refine RQ.seg 1 (pc' := 5) (L' := [some (.ref 0), some (.int (iI a)), some (.int (iI b)), some (.int (iI c)), some (.int (iI d0)), some (.int (iI e0)), none]) (st' := [.int (iI b), .int (iI (cnt a))]) (g1 := (HW sc ar tx oc rl ou tl, q)) rfl ?_
  have hcb := cnt_r b
  refine RQ.call rfl rfl (x_signs rb) ?_
  refine RQ.seg 2 (pc' := 10) (L' := [some (.ref 0), some (.int (iI a)), some (.int (iI b)), some (.int (iI c)), some (.int (iI d0)), some (.int (iI e0)), none]) (st' := [.int (iI c), .int ((iI (cnt a)) + (iI (cnt b)))]) (g1 := (HW sc ar tx oc rl ou tl, q)) rfl ?_
  refine RQ.to (L' := [some (.ref 0), some (.int (iI a)), some (.int (iI b)), some (.int (iI c)), some (.int (iI d0)), some (.int (iI e0)), none]) (st' := [.int (iI c), .int (iI (cnt a + (cnt b)))]) rfl (by simp only [iI_add, iI_sub, iI_mul, iI_neg]) ?_
  have hcc := cnt_r c
  refine RQ.call rfl rfl (x_signs rc) ?_
  refine RQ.seg 2 (pc' := 16) (L' := [some (.ref 0), some (.int (iI a)), some (.int (iI b)), some (.int (iI c)), some (.int (iI d0)), some (.int (iI e0)), none]) (st' := [.int (iI d0), .int ((iI (cnt a + (cnt b))) + (iI (cnt c)))]) (g1 := (HW sc ar tx oc rl ou tl, q)) rfl ?_
  refine RQ.to (L' := [some (.ref 0), some (.int (iI a)), some (.int (iI b)), some (.int (iI c)), some (.int (iI d0)), some (.int (iI e0)), none]) (st' := [.int (iI d0), .int (iI (cnt a + (cnt b) + (cnt c)))]) rfl (by simp only [iI_add, iI_sub, iI_mul, iI_neg]) ?_
  have hcd0 := cnt_r d0
  refine RQ.call rfl rfl (x_signs rd0) ?_
  refine RQ.seg 2 (pc' := 22) (L' := [some (.ref 0), some (.int (iI a)), some (.int (iI b)), some (.int (iI c)), some (.int (iI d0)), some (.int (iI e0)), none]) (st' := [.int (iI e0), .int ((iI (cnt a + (cnt b) + (cnt c))) + (iI (cnt d0)))]) (g1 := (HW sc ar tx oc rl ou tl, q)) rfl ?_
  refine RQ.to (L' := [some (.ref 0), some (.int (iI a)), some (.int (iI b)), some (.int (iI c)), some (.int (iI d0)), some (.int (iI e0)), none]) (st' := [.int (iI e0), .int (iI (cnt a + (cnt b) + (cnt c) + (cnt d0)))]) rfl (by simp only [iI_add, iI_sub, iI_mul, iI_neg]) ?_
  have hce0 := cnt_r e0
  refine RQ.call rfl rfl (x_signs re0) ?_
  refine RQ.seg 5 (pc' := 35) (L' := [some (.ref 0), some (.int (iI a)), some (.int (iI b)), some (.int (iI c)), some (.int (iI d0)), some (.int (iI e0)), some (.int ((iI (cnt a + (cnt b) + (cnt c) + (cnt d0))) + (iI (cnt e0))))]) (st' := [.int (iI (sc 101))]) (g1 := (HW sc ar tx oc rl ou tl, q)) rfl ?_
  refine RQ.to (L' := [some (.ref 0), some (.int (iI a)), some (.int (iI b)), some (.int (iI c)), some (.int (iI d0)), some (.int (iI e0)), some (.int ((iI (cnt a + (cnt b) + (cnt c) + (cnt d0))) + (iI (cnt e0))))]) (st' := [.int (iI (l.length : Int))]) rfl (by rw [show sc 101 = (l.length : Int) from hs]) ?_
  refine RQ.seg 3 (pc' := 41) (L' := [some (.ref 0), some (.int (iI a)), some (.int (iI b)), some (.int (iI c)), some (.int (iI d0)), some (.int (iI e0)), some (.int ((iI (cnt a + (cnt b) + (cnt c) + (cnt d0))) + (iI (cnt e0))))]) (st' := [.int (iI 160), .int ((iI (l.length : Int)) + ((iI (cnt a + (cnt b) + (cnt c) + (cnt d0))) + (iI (cnt e0))))]) (g1 := (HW sc ar tx oc rl ou tl, q)) rfl ?_
  refine RQ.if2 (a := ((l.length : Int) + (cnt a + (cnt b) + (cnt c) + (cnt d0) + (cnt e0)))) (b := 160) rfl rfl (by simp only [iI_add, iI_sub, iI_mul, iI_neg]) rfl (by omega) (by omega) (fun (h1 : (l.length : Int) + (cnt a + (cnt b) + (cnt c) + (cnt d0) + (cnt e0)) ≤ 160) => ?_) (fun (h1 : ¬ (l.length : Int) + (cnt a + (cnt b) + (cnt c) + (cnt d0) + (cnt e0)) ≤ 160) => ?_)
  · skip
    refine RQ.seg 3 (pc' := 51) (L' := [some (.ref 0), some (.int (iI a)), some (.int (iI b)), some (.int (iI c)), some (.int (iI d0)), some (.int (iI e0)), some (.int ((iI (cnt a + (cnt b) + (cnt c) + (cnt d0))) + (iI (cnt e0))))]) (st' := [.int (iI a), .ref 1]) (g1 := (HW sc ar tx oc rl ou tl, q)) rfl ?_
    refine RQ.to (L' := [some (.ref 0), some (.int (iI a)), some (.int (iI b)), some (.int (iI c)), some (.int (iI d0)), some (.int (iI e0)), some (.int (iI (cnt a + (cnt b) + (cnt c) + (cnt d0) + (cnt e0))))]) (st' := [.int (iI a), .ref 1]) (by simp only [iI_add, iI_sub, iI_mul, iI_neg]) rfl ?_
    have hL0 := apw_len l a
    refine RQ.callQ rfl rfl (x_append (sc := sc) (ar := ar) (l := l) ra hs hl (by omega)) (fun rv g1 hc => ?_)
    obtain ⟨rfl, f0, rfl, hl0⟩ := hc
    refine RQ.seg 3 (pc' := 59) (L' := [some (.ref 0), some (.int (iI a)), some (.int (iI b)), some (.int (iI c)), some (.int (iI d0)), some (.int (iI e0)), some (.int (iI (cnt a + (cnt b) + (cnt c) + (cnt d0) + (cnt e0))))]) (st' := [.int (iI b), .ref 1]) (g1 := (HW (usc sc 101 ((apw l a).length : Int)) (usc ar 2 f0) tx oc rl ou tl, q)) rfl ?_
    have hL1 := apw_len (apw l a) b
    refine RQ.callQ rfl rfl (x_append (sc := usc sc 101 ((apw l a).length : Int)) (ar := usc ar 2 f0) (l := apw l a) rb rfl hl0 (by omega)) (fun rv g1 hc => ?_)
    obtain ⟨rfl, f1, rfl, hl1⟩ := hc
    refine RQ.hp (g1 := (HW (usc sc 101 ((apw (apw l a) b).length : Int)) (usc ar 2 f1) tx oc rl ou tl, q)) (HW_e (usc_uu _ 101 _ _) (usc_uu _ 2 _ _)) ?_
    refine RQ.seg 3 (pc' := 67) (L' := [some (.ref 0), some (.int (iI a)), some (.int (iI b)), some (.int (iI c)), some (.int (iI d0)), some (.int (iI e0)), some (.int (iI (cnt a + (cnt b) + (cnt c) + (cnt d0) + (cnt e0))))]) (st' := [.int (iI c), .ref 1]) (g1 := (HW (usc sc 101 ((apw (apw l a) b).length : Int)) (usc ar 2 f1) tx oc rl ou tl, q)) rfl ?_
    have hL2 := apw_len (apw (apw l a) b) c
    refine RQ.callQ rfl rfl (x_append (sc := usc sc 101 ((apw (apw l a) b).length : Int)) (ar := usc ar 2 f1) (l := apw (apw l a) b) rc rfl hl1 (by omega)) (fun rv g1 hc => ?_)
    obtain ⟨rfl, f2, rfl, hl2⟩ := hc
    refine RQ.hp (g1 := (HW (usc sc 101 ((apw (apw (apw l a) b) c).length : Int)) (usc ar 2 f2) tx oc rl ou tl, q)) (HW_e (usc_uu _ 101 _ _) (usc_uu _ 2 _ _)) ?_
    refine RQ.seg 3 (pc' := 76) (L' := [some (.ref 0), some (.int (iI a)), some (.int (iI b)), some (.int (iI c)), some (.int (iI d0)), some (.int (iI e0)), some (.int (iI (cnt a + (cnt b) + (cnt c) + (cnt d0) + (cnt e0))))]) (st' := [.int (iI d0), .ref 1]) (g1 := (HW (usc sc 101 ((apw (apw (apw l a) b) c).length : Int)) (usc ar 2 f2) tx oc rl ou tl, q)) rfl ?_
    have hL3 := apw_len (apw (apw (apw l a) b) c) d0
    refine RQ.callQ rfl rfl (x_append (sc := usc sc 101 ((apw (apw (apw l a) b) c).length : Int)) (ar := usc ar 2 f2) (l := apw (apw (apw l a) b) c) rd0 rfl hl2 (by omega)) (fun rv g1 hc => ?_)
    obtain ⟨rfl, f3, rfl, hl3⟩ := hc
    refine RQ.hp (g1 := (HW (usc sc 101 ((apw (apw (apw (apw l a) b) c) d0).length : Int)) (usc ar 2 f3) tx oc rl ou tl, q)) (HW_e (usc_uu _ 101 _ _) (usc_uu _ 2 _ _)) ?_
    refine RQ.seg 3 (pc' := 85) (L' := [some (.ref 0), some (.int (iI a)), some (.int (iI b)), some (.int (iI c)), some (.int (iI d0)), some (.int (iI e0)), some (.int (iI (cnt a + (cnt b) + (cnt c) + (cnt d0) + (cnt e0))))]) (st' := [.int (iI e0), .ref 1]) (g1 := (HW (usc sc 101 ((apw (apw (apw (apw l a) b) c) d0).length : Int)) (usc ar 2 f3) tx oc rl ou tl, q)) rfl ?_
    have hL4 := apw_len (apw (apw (apw (apw l a) b) c) d0) e0
    refine RQ.callQ rfl rfl (x_append (sc := usc sc 101 ((apw (apw (apw (apw l a) b) c) d0).length : Int)) (ar := usc ar 2 f3) (l := apw (apw (apw (apw l a) b) c) d0) re0 rfl hl3 (by omega)) (fun rv g1 hc => ?_)
    obtain ⟨rfl, f4, rfl, hl4⟩ := hc
    refine RQ.hp (g1 := (HW (usc sc 101 ((apw (apw (apw (apw (apw l a) b) c) d0) e0).length : Int)) (usc ar 2 f4) tx oc rl ou tl, q)) (HW_e (usc_uu _ 101 _ _) (usc_uu _ 2 _ _)) ?_
    refine RQ.seg 3 (pc' := 95) (L' := [some (.ref 0), some (.int (iI a)), some (.int (iI b)), some (.int (iI c)), some (.int (iI d0)), some (.int (iI e0)), some (.int (iI (cnt a + (cnt b) + (cnt c) + (cnt d0) + (cnt e0))))]) (st' := [.int (iI ((apw (apw (apw (apw (apw l a) b) c) d0) e0).length : Int))]) (g1 := (HW (usc sc 101 ((apw (apw (apw (apw (apw l a) b) c) d0) e0).length : Int)) (usc ar 2 f4) tx oc rl ou tl, q)) rfl ?_
    refine RQ.ret rfl rfl ?_
    have e8 : fdl l a b c d0 e0 = apw (apw (apw (apw (apw l a) b) c) d0) e0 := by unfold fdl; rw [if_pos (by omega)]
    have e9 : sFeed l a b c d0 e0 = ((apw (apw (apw (apw (apw l a) b) c) d0) e0).length : Int) := by unfold sFeed; rw [if_pos (by omega), e8]
    rw [e9, e8]
    exact ⟨rfl, _, _, rfl, (by repeat (first | exact Same.rf | refine Same.us rfl ?_)), (by repeat (first | exact Same.rf | refine Same.us rfl ?_)), rfl, hl4⟩
  · skip
    refine RQ.seg 1 (pc' := 45) (L' := [some (.ref 0), some (.int (iI a)), some (.int (iI b)), some (.int (iI c)), some (.int (iI d0)), some (.int (iI e0)), some (.int ((iI (cnt a + (cnt b) + (cnt c) + (cnt d0))) + (iI (cnt e0))))]) (st' := [.int (iI (-1))]) (g1 := (HW sc ar tx oc rl ou tl, q)) rfl ?_
    refine RQ.to (L' := [some (.ref 0), some (.int (iI a)), some (.int (iI b)), some (.int (iI c)), some (.int (iI d0)), some (.int (iI e0)), some (.int (iI (cnt a + (cnt b) + (cnt c) + (cnt d0) + (cnt e0))))]) (st' := [.int (iI (-1))]) (by simp only [iI_add, iI_sub, iI_mul, iI_neg]) rfl ?_
    refine RQ.ret rfl rfl ?_
    have e9 : sFeed l a b c d0 e0 = -1 := by unfold sFeed; rw [if_neg (by omega)]
    have e8 : fdl l a b c d0 e0 = l := by unfold fdl; rw [if_neg (by omega)]
    rw [e9, e8]
    exact ⟨rfl, _, _, rfl, (by repeat (first | exact Same.rf | refine Same.us rfl ?_)), (by repeat (first | exact Same.rf | refine Same.us rfl ?_)), hs, hl⟩
theorem m_feed {K : PK} {d : Nat} {sc : Nat → Int} {ar : Nat → Int → Int} {tx oc : Nat} {rl : Nat → Option Nat} {ou : Nat → Int64} {tl : List PO} {q : Nat × Nat} {a b c d0 e0 : Int} (ra : -2147483648 ≤ a ∧ a < 2147483648) (rb : -2147483648 ≤ b ∧ b < 2147483648) (rc : -2147483648 ≤ c ∧ c < 2147483648) (rd0 : -2147483648 ≤ d0 ∧ d0 < 2147483648) (re0 : -2147483648 ≤ e0 ∧ e0 < 2147483648) {l : List Int} (hlo : l.length ≤ 160) (hs : sc 8006 = (l.length : Int)) (hl : LAt sgb (ar 81) l) : CQ K (d + 2) 155 [.ref 80, .int (iI a), .int (iI b), .int (iI c), .int (iI d0), .int (iI e0)] (HW sc ar tx oc rl ou tl, q) (fun r g' => r = some (.int (iI (sFeed l a b c d0 e0))) ∧ ∃ sc' ar', g' = (HW sc' ar' tx oc rl ou tl, q) ∧ Same [8000, 8006] sc sc' ∧ Same [81] ar ar' ∧ sc' 8006 = ((fdl l a b c d0 e0).length : Int) ∧ LAt sgb (ar' 81) (fdl l a b c d0 e0)) := by
  refine CQ.of (own := 11) (n := 6) (ini := false) (rt := (some .int)) (cd := cd155) (by decide +kernel) rfl (by decide +kernel) rfl (Nat.le_of_ble_eq_true rfl) ?_
  refine RQ.seg 5 (pc' := 9) (L' := [some (.ref 80), some (.int (iI a)), some (.int (iI b)), some (.int (iI c)), some (.int (iI d0)), some (.int (iI e0))]) (st' := [.int (iI (sc 8006))]) (g1 := (HW (usc sc 8000 0) ar tx oc rl ou tl, q)) rfl ?_
  refine RQ.to (L' := [some (.ref 80), some (.int (iI a)), some (.int (iI b)), some (.int (iI c)), some (.int (iI d0)), some (.int (iI e0))]) (st' := [.int (iI (l.length : Int))]) rfl (by rw [show sc 8006 = (l.length : Int) from hs]) ?_
  refine RQ.seg 1 (pc' := 10) (L' := [some (.ref 80), some (.int (iI a)), some (.int (iI b)), some (.int (iI c)), some (.int (iI d0)), some (.int (iI e0))]) (st' := [.int (iI a), .int (iI (l.length : Int))]) (g1 := (HW (usc sc 8000 0) ar tx oc rl ou tl, q)) rfl ?_
  have hca := cnt_r a
  refine RQ.call rfl rfl (m_bytes ra) ?_
  refine RQ.seg 2 (pc' := 15) (L' := [some (.ref 80), some (.int (iI a)), some (.int (iI b)), some (.int (iI c)), some (.int (iI d0)), some (.int (iI e0))]) (st' := [.int (iI b), .int ((iI (l.length : Int)) + (iI (cnt a)))]) (g1 := (HW (usc sc 8000 0) ar tx oc rl ou tl, q)) rfl ?_
  refine RQ.to (L' := [some (.ref 80), some (.int (iI a)), some (.int (iI b)), some (.int (iI c)), some (.int (iI d0)), some (.int (iI e0))]) (st' := [.int (iI b), .int (iI ((l.length : Int) + (cnt a)))]) rfl (by simp only [iI_add, iI_sub, iI_mul, iI_neg]) ?_
  have hcb := cnt_r b
  refine RQ.call rfl rfl (m_bytes rb) ?_
  refine RQ.seg 2 (pc' := 20) (L' := [some (.ref 80), some (.int (iI a)), some (.int (iI b)), some (.int (iI c)), some (.int (iI d0)), some (.int (iI e0))]) (st' := [.int (iI c), .int ((iI ((l.length : Int) + (cnt a))) + (iI (cnt b)))]) (g1 := (HW (usc sc 8000 0) ar tx oc rl ou tl, q)) rfl ?_
  refine RQ.to (L' := [some (.ref 80), some (.int (iI a)), some (.int (iI b)), some (.int (iI c)), some (.int (iI d0)), some (.int (iI e0))]) (st' := [.int (iI c), .int (iI ((l.length : Int) + (cnt a) + (cnt b)))]) rfl (by simp only [iI_add, iI_sub, iI_mul, iI_neg]) ?_
  have hcc := cnt_r c
  refine RQ.call rfl rfl (m_bytes rc) ?_
  refine RQ.seg 2 (pc' := 26) (L' := [some (.ref 80), some (.int (iI a)), some (.int (iI b)), some (.int (iI c)), some (.int (iI d0)), some (.int (iI e0))]) (st' := [.int (iI d0), .int ((iI ((l.length : Int) + (cnt a) + (cnt b))) + (iI (cnt c)))]) (g1 := (HW (usc sc 8000 0) ar tx oc rl ou tl, q)) rfl ?_
  refine RQ.to (L' := [some (.ref 80), some (.int (iI a)), some (.int (iI b)), some (.int (iI c)), some (.int (iI d0)), some (.int (iI e0))]) (st' := [.int (iI d0), .int (iI ((l.length : Int) + (cnt a) + (cnt b) + (cnt c)))]) rfl (by simp only [iI_add, iI_sub, iI_mul, iI_neg]) ?_
  have hcd0 := cnt_r d0
  refine RQ.call rfl rfl (m_bytes rd0) ?_
  refine RQ.seg 2 (pc' := 32) (L' := [some (.ref 80), some (.int (iI a)), some (.int (iI b)), some (.int (iI c)), some (.int (iI d0)), some (.int (iI e0))]) (st' := [.int (iI e0), .int ((iI ((l.length : Int) + (cnt a) + (cnt b) + (cnt c))) + (iI (cnt d0)))]) (g1 := (HW (usc sc 8000 0) ar tx oc rl ou tl, q)) rfl ?_
  refine RQ.to (L' := [some (.ref 80), some (.int (iI a)), some (.int (iI b)), some (.int (iI c)), some (.int (iI d0)), some (.int (iI e0))]) (st' := [.int (iI e0), .int (iI ((l.length : Int) + (cnt a) + (cnt b) + (cnt c) + (cnt d0)))]) rfl (by simp only [iI_add, iI_sub, iI_mul, iI_neg]) ?_
  have hce0 := cnt_r e0
  refine RQ.call rfl rfl (m_bytes re0) ?_
  refine RQ.seg 2 (pc' := 39) (L' := [some (.ref 80), some (.int (iI a)), some (.int (iI b)), some (.int (iI c)), some (.int (iI d0)), some (.int (iI e0))]) (st' := [.int (iI 160), .int ((iI ((l.length : Int) + (cnt a) + (cnt b) + (cnt c) + (cnt d0))) + (iI (cnt e0)))]) (g1 := (HW (usc sc 8000 0) ar tx oc rl ou tl, q)) rfl ?_
  refine RQ.if2 (a := ((l.length : Int) + (cnt a) + (cnt b) + (cnt c) + (cnt d0) + (cnt e0))) (b := 160) rfl rfl (by simp only [iI_add, iI_sub, iI_mul, iI_neg]) rfl (by omega) (by omega) (fun (h1 : (l.length : Int) + (cnt a) + (cnt b) + (cnt c) + (cnt d0) + (cnt e0) ≤ 160) => ?_) (fun (h1 : ¬ (l.length : Int) + (cnt a) + (cnt b) + (cnt c) + (cnt d0) + (cnt e0) ≤ 160) => ?_)
  · skip
    refine RQ.seg 2 (pc' := 46) (L' := [some (.ref 80), some (.int (iI a)), some (.int (iI b)), some (.int (iI c)), some (.int (iI d0)), some (.int (iI e0))]) (st' := [.int (iI a), .ref 80]) (g1 := (HW (usc sc 8000 0) ar tx oc rl ou tl, q)) rfl ?_
    have hL0 := apw_len l a
    refine RQ.callQ rfl rfl (m_put (sc := usc sc 8000 0) (ar := ar) (l := l) ra hs hl (by omega)) (fun rv g1 hc => ?_)
    obtain ⟨rfl, f0, rfl, hl0⟩ := hc
    refine RQ.hp (g1 := (HW (usc (usc sc 8000 0) 8006 ((apw l a).length : Int)) (usc ar 81 f0) tx oc rl ou tl, q)) (HW_e rfl rfl) ?_
    refine RQ.seg 2 (pc' := 51) (L' := [some (.ref 80), some (.int (iI a)), some (.int (iI b)), some (.int (iI c)), some (.int (iI d0)), some (.int (iI e0))]) (st' := [.int (iI b), .ref 80]) (g1 := (HW (usc (usc sc 8000 0) 8006 ((apw l a).length : Int)) (usc ar 81 f0) tx oc rl ou tl, q)) rfl ?_
    have hL1 := apw_len (apw l a) b
    refine RQ.callQ rfl rfl (m_put (sc := usc (usc sc 8000 0) 8006 ((apw l a).length : Int)) (ar := usc ar 81 f0) (l := apw l a) rb rfl hl0 (by omega)) (fun rv g1 hc => ?_)
    obtain ⟨rfl, f1, rfl, hl1⟩ := hc
    refine RQ.hp (g1 := (HW (usc (usc sc 8000 0) 8006 ((apw (apw l a) b).length : Int)) (usc ar 81 f1) tx oc rl ou tl, q)) (HW_e (usc_uu _ 8006 _ _) (usc_uu _ 81 _ _)) ?_
    refine RQ.seg 2 (pc' := 56) (L' := [some (.ref 80), some (.int (iI a)), some (.int (iI b)), some (.int (iI c)), some (.int (iI d0)), some (.int (iI e0))]) (st' := [.int (iI c), .ref 80]) (g1 := (HW (usc (usc sc 8000 0) 8006 ((apw (apw l a) b).length : Int)) (usc ar 81 f1) tx oc rl ou tl, q)) rfl ?_
    have hL2 := apw_len (apw (apw l a) b) c
    refine RQ.callQ rfl rfl (m_put (sc := usc (usc sc 8000 0) 8006 ((apw (apw l a) b).length : Int)) (ar := usc ar 81 f1) (l := apw (apw l a) b) rc rfl hl1 (by omega)) (fun rv g1 hc => ?_)
    obtain ⟨rfl, f2, rfl, hl2⟩ := hc
    refine RQ.hp (g1 := (HW (usc (usc sc 8000 0) 8006 ((apw (apw (apw l a) b) c).length : Int)) (usc ar 81 f2) tx oc rl ou tl, q)) (HW_e (usc_uu _ 8006 _ _) (usc_uu _ 81 _ _)) ?_
    refine RQ.seg 2 (pc' := 62) (L' := [some (.ref 80), some (.int (iI a)), some (.int (iI b)), some (.int (iI c)), some (.int (iI d0)), some (.int (iI e0))]) (st' := [.int (iI d0), .ref 80]) (g1 := (HW (usc (usc sc 8000 0) 8006 ((apw (apw (apw l a) b) c).length : Int)) (usc ar 81 f2) tx oc rl ou tl, q)) rfl ?_
    have hL3 := apw_len (apw (apw (apw l a) b) c) d0
    refine RQ.callQ rfl rfl (m_put (sc := usc (usc sc 8000 0) 8006 ((apw (apw (apw l a) b) c).length : Int)) (ar := usc ar 81 f2) (l := apw (apw (apw l a) b) c) rd0 rfl hl2 (by omega)) (fun rv g1 hc => ?_)
    obtain ⟨rfl, f3, rfl, hl3⟩ := hc
    refine RQ.hp (g1 := (HW (usc (usc sc 8000 0) 8006 ((apw (apw (apw (apw l a) b) c) d0).length : Int)) (usc ar 81 f3) tx oc rl ou tl, q)) (HW_e (usc_uu _ 8006 _ _) (usc_uu _ 81 _ _)) ?_
    refine RQ.seg 2 (pc' := 68) (L' := [some (.ref 80), some (.int (iI a)), some (.int (iI b)), some (.int (iI c)), some (.int (iI d0)), some (.int (iI e0))]) (st' := [.int (iI e0), .ref 80]) (g1 := (HW (usc (usc sc 8000 0) 8006 ((apw (apw (apw (apw l a) b) c) d0).length : Int)) (usc ar 81 f3) tx oc rl ou tl, q)) rfl ?_
    have hL4 := apw_len (apw (apw (apw (apw l a) b) c) d0) e0
    refine RQ.callQ rfl rfl (m_put (sc := usc (usc sc 8000 0) 8006 ((apw (apw (apw (apw l a) b) c) d0).length : Int)) (ar := usc ar 81 f3) (l := apw (apw (apw (apw l a) b) c) d0) re0 rfl hl3 (by omega)) (fun rv g1 hc => ?_)
    obtain ⟨rfl, f4, rfl, hl4⟩ := hc
    refine RQ.hp (g1 := (HW (usc (usc sc 8000 0) 8006 ((apw (apw (apw (apw (apw l a) b) c) d0) e0).length : Int)) (usc ar 81 f4) tx oc rl ou tl, q)) (HW_e (usc_uu _ 8006 _ _) (usc_uu _ 81 _ _)) ?_
    refine RQ.seg 2 (pc' := 75) (L' := [some (.ref 80), some (.int (iI a)), some (.int (iI b)), some (.int (iI c)), some (.int (iI d0)), some (.int (iI e0))]) (st' := [.int (iI ((apw (apw (apw (apw (apw l a) b) c) d0) e0).length : Int))]) (g1 := (HW (usc (usc sc 8000 0) 8006 ((apw (apw (apw (apw (apw l a) b) c) d0) e0).length : Int)) (usc ar 81 f4) tx oc rl ou tl, q)) rfl ?_
    refine RQ.ret rfl rfl ?_
    have e8 : fdl l a b c d0 e0 = apw (apw (apw (apw (apw l a) b) c) d0) e0 := by unfold fdl; rw [if_pos (by omega)]
    have e9 : sFeed l a b c d0 e0 = ((apw (apw (apw (apw (apw l a) b) c) d0) e0).length : Int) := by unfold sFeed; rw [if_pos (by omega), e8]
    rw [e9, e8]
    exact ⟨rfl, _, _, rfl, (by repeat (first | exact Same.rf | refine Same.us rfl ?_)), (by repeat (first | exact Same.rf | refine Same.us rfl ?_)), rfl, hl4⟩
  · skip
    refine RQ.seg 1 (pc' := 43) (L' := [some (.ref 80), some (.int (iI a)), some (.int (iI b)), some (.int (iI c)), some (.int (iI d0)), some (.int (iI e0))]) (st' := [.int (iI (-1))]) (g1 := (HW (usc sc 8000 0) ar tx oc rl ou tl, q)) rfl ?_
    refine RQ.ret rfl rfl ?_
    have e9 : sFeed l a b c d0 e0 = -1 := by unfold sFeed; rw [if_neg (by omega)]
    have e8 : fdl l a b c d0 e0 = l := by unfold fdl; rw [if_neg (by omega)]
    rw [e9, e8]
    exact ⟨rfl, _, _, rfl, (by repeat (first | exact Same.rf | refine Same.us rfl ?_)), (by repeat (first | exact Same.rf | refine Same.us rfl ?_)), hs, hl⟩
