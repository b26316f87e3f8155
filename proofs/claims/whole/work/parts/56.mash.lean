/-! ashes of the reference, by wip/tools -/
/-! ashes: what explains them -/
def AsOK (nw : Int) (Z : SS) : Prop := (0 ≤ zN Z ∧ zN Z ≤ 10) ∧ ∀ k, 0 ≤ k → k < zN Z → (zs Z k = 0 ∧ (0 ≤ zw Z k ∧ zw Z k < 6) ∧ (0 ≤ zv Z k ∧ zv Z k ≤ 1)) ∨ (zs Z k = 1 ∧ (0 ≤ zw Z k ∧ zw Z k < nw) ∧ (0 ≤ zv Z k ∧ zv Z k ≤ 9))
section Ash
variable {nw nb : Int} {W B : Int → Int → Int}
/-- 1: a ladder stands on that place -/
def ftn (nw nb : Int) (W B : Int → Int → Int) (i w : Int) : Nat → Int
  | 0 => 0
  | b + 1 => if rbk nw nb W B i b = 0 ∧ PI nw nb W B i b / 10 = w then 1 else ftn nw nb W B i w b
def swn (nw nb : Int) (W B : Int → Int → Int) (i w : Int) : Nat → Int
  | 0 => 0
  | b + 1 => if rbk nw nb W B i b = 0 ∧ PI nw nb W B i b % 10 = w then swn nw nb W B i w b + sS (svn nb W B (PI nw nb W B i)) b else swn nw nb W B i w b
theorem ftn_r {i w : Int} : ∀ n, 0 ≤ ftn nw nb W B i w n ∧ ftn nw nb W B i w n ≤ 1
  | 0 => ⟨Int.le_refl _, by show (0 : Int) ≤ 1; decide⟩
  | n + 1 => by rw [ftn]; have := ftn_r (i := i) (w := w) n; split <;> omega
theorem ftn_1 {i w : Int} {n : Nat} (h : ftn nw nb W B i w n = 1) : ∀ m, n ≤ m → ftn nw nb W B i w m = 1
  | 0, hm => by obtain rfl : n = 0 := by omega
                exact h
  | m + 1, hm => by
    by_cases e : n = m + 1
    · subst e; exact h
    · rw [ftn, ftn_1 h m (by omega)]; split <;> rfl
theorem swn_sm (hF : FrOK nw nb W B) {i w : Int} : swn nw nb W B i w nb.toNat = sm3 nb (atw nb B (PI nw nb W B i) (sS (svn nb W B (PI nw nb W B i))) w) := by
  have hn := hF.1
  rcases (show nb = 0 ∨ nb = 1 ∨ nb = 2 ∨ nb = 3 by omega) with rfl | rfl | rfl | rfl
  · rfl
  all_goals
    show swn nw _ W B i w _ = _
    simp only [Int.toNat_one, show (2 : Int).toNat = 2 from rfl, show (3 : Int).toNat = 3 from rfl, swn, sm3, atw, rbk]
    simp only [Int.natCast_zero, Int.natCast_one, show ((2 : Nat) : Int) = 2 from rfl, show ((0 : Nat) : Int) = 0 from rfl, show ((1 : Nat) : Int) = 1 from rfl]
    split <;> (try split) <;> (try split) <;> simp_all
theorem swn_w (hF : FrOK nw nb W B) {i w : Int} (hw : 0 ≤ w ∧ w < nw) : W w 2 - sL (svn nb W B (PI nw nb W B i)) w = swn nw nb W B i w nb.toNat := by
  have h := (svn_j hF (PI_ok hF i)).2.2.2 w hw.1 hw.2
  rw [swn_sm hF]
  omega
/-- what is seen of an ash in a row -/
def asv (nw nb : Int) (W B : Int → Int → Int) (Z : SS) (i k : Int) : Int := if zs Z k = 1 then swn nw nb W B i (zw Z k) nb.toNat else ftn nw nb W B i (zw Z k) nb.toNat
def son (nw nb : Int) (W B : Int → Int → Int) (Z : SS) (i : Int) : Nat → Bool
  | 0 => true
  | k + 1 => son nw nb W B Z i k && decide (asv nw nb W B Z i k = zv Z k)
/-- 1: the row explains all ashes -/
def sof (nw nb : Int) (W B : Int → Int → Int) (Z : SS) (i : Int) : Int := if son nw nb W B Z i (zN Z).toNat = true then 1 else 0
theorem sof_r (Z : SS) (i : Int) : 0 ≤ sof nw nb W B Z i ∧ sof nw nb W B Z i ≤ 1 := by unfold sof; split <;> omega
theorem son_f {Z : SS} {i : Int} {n : Nat} (h : son nw nb W B Z i n = false) : ∀ m, n ≤ m → son nw nb W B Z i m = false
  | 0, hm => by obtain rfl : n = 0 := by omega
                exact h
  | m + 1, hm => by
    by_cases e : n = m + 1
    · subst e; exact h
    · rw [son, son_f h m (by omega)]; rfl
theorem sof_0 {Z : SS} {i : Int} {k : Nat} (hk : (k : Int) < zN Z) (h : ¬ asv nw nb W B Z i k = zv Z k) : sof nw nb W B Z i = 0 := by
  unfold sof
  rw [son_f (n := k + 1) (by rw [son, decide_eq_false h, Bool.and_false]) (zN Z).toNat (by omega)]
  rfl
def andz (a b : Int) : Int := ((a.toNat &&& b.toNat : Nat) : Int)
theorem andz_r {a : Int} (b : Int) (ha : 0 ≤ a ∧ a < 8) : 0 ≤ andz a b ∧ andz a b < 8 := by
  unfold andz
  have : a.toNat &&& b.toNat ≤ a.toNat := Nat.and_le_left
  omega
/-- who surely knocked, and whether any row explains the ashes -/
def kbn (nw nb : Int) (W B : Int → Int → Int) (Z : SS) : Nat → Int × Int
  | 0 => (2 ^ nb.toNat - 1, 0)
  | k + 1 => if sof nw nb W B Z k = 1 then (andz (kbn nw nb W B Z k).1 (xcn nw nb W B k nb.toNat), 1) else kbn nw nb W B Z k
theorem kbn_r (hF : FrOK nw nb W B) {Z : SS} : ∀ n, (0 ≤ (kbn nw nb W B Z n).1 ∧ (kbn nw nb W B Z n).1 < 8) ∧ (0 ≤ (kbn nw nb W B Z n).2 ∧ (kbn nw nb W B Z n).2 ≤ 1)
  | 0 => by
    have hn := hF.1
    show (0 ≤ (2 : Int) ^ nb.toNat - 1 ∧ (2 : Int) ^ nb.toNat - 1 < 8) ∧ ((0 : Int) ≤ 0 ∧ (0 : Int) ≤ 1)
    rcases (show nb = 0 ∨ nb = 1 ∨ nb = 2 ∨ nb = 3 by omega) with rfl | rfl | rfl | rfl <;> decide
  | n + 1 => by
    have ih := kbn_r hF (Z := Z) n
    rw [kbn]
    split
    · exact ⟨andz_r _ ih.1, by show (0 : Int) ≤ 1 ∧ (1 : Int) ≤ 1; decide⟩
    · exact ih
def knv (nw nb : Int) (W B : Int → Int → Int) (Z : SS) : Int := if (kbn nw nb W B Z (t3 (mny nw nb W B)).toNat).2 = 1 then (kbn nw nb W B Z (t3 (mny nw nb W B)).toNat).1 else 0
def sExplain (nw nb : Int) (W B : Int → Int → Int) (Z : SS) (i : Int) : Int := if 0 < nb then pik (sof nw nb W B Z) (fun k => rnm (PI nw nb W B k) nb.toNat) i (t3 (mny nw nb W B)).toNat 0 0 else -1
def sKnocked (nw nb : Int) (W B : Int → Int → Int) (Z : SS) : Int := if 0 < nb then knv nw nb W B Z else -1
end Ash
section RQAnd
variable {K : PK} {d own : Nat} {ini : Bool} {rt : Option FieldType} {cd : PC} {pc : Nat} {L : PL} {st : List Value} {g : PG} {Q : Option Value → PG → Prop}
theorem RQ.iandn {len : Nat} {a b : Int} {x y : Int32} (hf : pfetch cd pc = some (.iand, len)) (hx : x = iI a) (hy : y = iI b) (ha : 0 ≤ a) (hb : 0 ≤ b) (t : RQ K d own ini rt cd (pc + 1) L (.int (iI (andz a b)) :: st) g Q) : RQ K d own ini rt cd pc L (.int y :: .int x :: st) g Q := by
  subst hx hy
  refine RQ.iandq hf ?_ t
  obtain ⟨m, rfl⟩ := Int.eq_ofNat_of_zero_le ha
  obtain ⟨n, rfl⟩ := Int.eq_ofNat_of_zero_le hb
  exact iI_and m n
end RQAnd
/-- an ash more -/
def zAsh (Z : SS) (s w v : Int) : SS := (zL Z, zR Z, zN Z + 1, usz (zs Z) (zN Z) s, usz (zw Z) (zN Z) w, usz (zv Z) (zN Z) v, zD Z)
def ashOK (nw nb : Int) (Z : SS) (s w v : Int) : Prop := 0 < nb ∧ zN Z < 10 ∧ ((s = 0 ∧ (0 ≤ w ∧ w < 6) ∧ (0 ≤ v ∧ v ≤ 1)) ∨ (s = 1 ∧ (0 ≤ w ∧ w < nw) ∧ (0 ≤ v ∧ v ≤ 9)))
theorem AsOK.up {nw nb : Int} {Z : SS} {s w v : Int} (h : AsOK nw Z) (ho : ashOK nw nb Z s w v) : AsOK nw (zAsh Z s w v) := by
  obtain ⟨h1, h2⟩ := h
  obtain ⟨o1, o2, o3⟩ := ho
  refine ⟨⟨?_, ?_⟩, fun k k0 k1 => ?_⟩
  · show 0 ≤ zN Z + 1; omega
  · show zN Z + 1 ≤ 10; omega
  · have k1' : k < zN Z + 1 := k1
    show (usz (zs Z) (zN Z) s k = 0 ∧ (0 ≤ usz (zw Z) (zN Z) w k ∧ usz (zw Z) (zN Z) w k < 6) ∧ (0 ≤ usz (zv Z) (zN Z) v k ∧ usz (zv Z) (zN Z) v k ≤ 1)) ∨ (usz (zs Z) (zN Z) s k = 1 ∧ (0 ≤ usz (zw Z) (zN Z) w k ∧ usz (zw Z) (zN Z) w k < nw) ∧ (0 ≤ usz (zv Z) (zN Z) v k ∧ usz (zv Z) (zN Z) v k ≤ 9))
    by_cases e : k = zN Z
    · subst e; rw [usz_s, usz_s, usz_s]; exact o3
    · rw [usz_n e, usz_n e, usz_n e]; exact h2 k k0 (by omega)
theorem SeO.ash {Z : SS} {na : Int} {f32 f33 f34 f35 f36 : Int → Int} {s w v : Int} (h : SeO Z na f32 f33 f34 f35 f36) : SeO (zAsh Z s w v) (na + 1) f32 f33 (usz f34 na s) (usz f35 na w) (usz f36 na v) := by
  obtain ⟨h1, h2, h3, h4⟩ := h
  subst h3
  refine ⟨h1, h2, rfl, fun k k0 k1 => ?_⟩
  have k1' : k < zN Z + 1 := k1
  show usz f34 (zN Z) s k = usz (zs Z) (zN Z) s k ∧ usz f35 (zN Z) w k = usz (zw Z) (zN Z) w k ∧ usz f36 (zN Z) v k = usz (zv Z) (zN Z) v k
  by_cases e : k = zN Z
  · subst e; rw [usz_s, usz_s, usz_s, usz_s, usz_s, usz_s]; exact ⟨rfl, rfl, rfl⟩
  · rw [usz_n e, usz_n e, usz_n e, usz_n e, usz_n e, usz_n e]; exact h4 k k0 (by omega)
theorem m_ash_t {K : PK} {d : Nat} {sc : Nat → Int} {ar : Nat → Int → Int} {tx oc : Nat} {rl : Nat → Option Nat} {ou : Nat → Int64} {tl : List PO} {q : Nat × Nat} {s w v : Int} {nw nb : Int} {W B : Int → Int → Int} (hF : FrOK nw nb W B) (hM : FrM (sc 8024) (sc 8025) (ar 85) (ar 86) nw nb W B) (hn1 : 0 ≤ sc 8056 ∧ sc 8056 ≤ 10) (rs : -2147483648 ≤ s ∧ s < 2147483648) (rw : -2147483648 ≤ w ∧ w < 2147483648) (rv : -2147483648 ≤ v ∧ v < 2147483648) (hc : 0 < nb ∧ sc 8056 < 10 ∧ ((s = 0 ∧ (0 ≤ w ∧ w < 6) ∧ (0 ≤ v ∧ v ≤ 1)) ∨ (s = 1 ∧ (0 ≤ w ∧ w < nw) ∧ (0 ≤ v ∧ v ≤ 9)))) : CallR K (d + 2) 219 [.ref 80, .int (iI s), .int (iI w), .int (iI v)] (HW sc ar tx oc rl ou tl, q) (some (.int (iI (sc 8056 + 1)))) (HW (usc (usc sc 8000 0) 8056 (sc 8056 + 1)) (usc (usc (usc ar 111 (usz (ar 111) (sc 8056) s)) 112 (usz (ar 112) (sc 8056) w)) 113 (usz (ar 113) (sc 8056) v)) tx oc rl ou tl, q) := by
  apply CQ.x
  have hn := hF.1
  have hm1 := hM.1
  have hm2 := hM.2.1
  refine CQ.of (own := 11) (n := 4) (ini := false) (rt := (some .int)) (cd := cd219) (by decide +kernel) rfl (by decide +kernel) rfl (Nat.le_of_ble_eq_true rfl) ?_
  refine RQ.seg 5 (pc' := 9) (L' := [some (.ref 80), some (.int (iI s)), some (.int (iI w)), some (.int (iI v))]) (st' := [.int (iI (sc 8025))]) (g1 := (HW (usc sc 8000 0) ar tx oc rl ou tl, q)) rfl ?_
  refine RQ.if1 (a := (sc 8025)) rfl rfl rfl (by omega) (fun (h1 : sc 8025 = 0) => ?_) (fun (h1 : ¬ sc 8025 = 0) => ?_)
  · skip
    refine RQ.seg 1 (pc' := 78) (L' := [some (.ref 80), some (.int (iI s)), some (.int (iI w)), some (.int (iI v))]) (st' := [.int (iI (-1))]) (g1 := (HW (usc sc 8000 0) ar tx oc rl ou tl, q)) rfl ?_
    refine RQ.ret rfl rfl ?_
    first | (exfalso; omega) | exact ⟨rfl, rfl⟩
  · skip
    refine RQ.seg 3 (pc' := 18) (L' := [some (.ref 80), some (.int (iI s)), some (.int (iI w)), some (.int (iI v))]) (st' := [.int (iI 10), .int (iI (sc 8056))]) (g1 := (HW (usc sc 8000 0) ar tx oc rl ou tl, q)) rfl ?_
    refine RQ.if2 (a := (sc 8056)) (b := 10) rfl rfl rfl rfl (by omega) (by omega) (fun (h2 : sc 8056 = 10) => ?_) (fun (h2 : ¬ sc 8056 = 10) => ?_)
    · skip
      refine RQ.seg 1 (pc' := 78) (L' := [some (.ref 80), some (.int (iI s)), some (.int (iI w)), some (.int (iI v))]) (st' := [.int (iI (-1))]) (g1 := (HW (usc sc 8000 0) ar tx oc rl ou tl, q)) rfl ?_
      refine RQ.ret rfl rfl ?_
      first | (exfalso; omega) | exact ⟨rfl, rfl⟩
    · skip
      refine RQ.seg 1 (pc' := 22) (L' := [some (.ref 80), some (.int (iI s)), some (.int (iI w)), some (.int (iI v))]) (st' := [.int (iI s)]) (g1 := (HW (usc sc 8000 0) ar tx oc rl ou tl, q)) rfl ?_
      refine RQ.seg 1 (pc' := 23) (L' := [some (.ref 80), some (.int (iI s)), some (.int (iI w)), some (.int (iI v))]) (st' := [.long ((iI s).toInt64)]) (g1 := (HW (usc sc 8000 0) ar tx oc rl ou tl, q)) rfl ?_
      refine RQ.to (L' := [some (.ref 80), some (.int (iI s)), some (.int (iI w)), some (.int (iI v))]) (st' := [.long (lL s)]) rfl (by rw [iI_64 (by omega)]) ?_
      refine RQ.seg 2 (pc' := 25) (L' := [some (.ref 80), some (.int (iI s)), some (.int (iI w)), some (.int (iI v))]) (st' := [.long (lL 1), .long (lL 0), .long (lL s)]) (g1 := (HW (usc sc 8000 0) ar tx oc rl ou tl, q)) rfl ?_
      rcases Decidable.em (0 ≤ s ∧ s ≤ 1) with h3 | h3
      · skip
        refine RQ.call rfl rfl (m_isIn_t (by omega) (by omega) (by omega) h3) ?_
        refine RQ.seg 2 (pc' := 32) (L' := [some (.ref 80), some (.int (iI s)), some (.int (iI w)), some (.int (iI v))]) (st' := [.int (iI w)]) (g1 := (HW (usc sc 8000 0) ar tx oc rl ou tl, q)) rfl ?_
        refine RQ.seg 1 (pc' := 33) (L' := [some (.ref 80), some (.int (iI s)), some (.int (iI w)), some (.int (iI v))]) (st' := [.long ((iI w).toInt64)]) (g1 := (HW (usc sc 8000 0) ar tx oc rl ou tl, q)) rfl ?_
        refine RQ.to (L' := [some (.ref 80), some (.int (iI s)), some (.int (iI w)), some (.int (iI v))]) (st' := [.long (lL w)]) rfl (by rw [iI_64 (by omega)]) ?_
        refine RQ.seg 2 (pc' := 35) (L' := [some (.ref 80), some (.int (iI s)), some (.int (iI w)), some (.int (iI v))]) (st' := [.int (iI s), .long (lL 0), .long (lL w)]) (g1 := (HW (usc sc 8000 0) ar tx oc rl ou tl, q)) rfl ?_
        refine RQ.if1 (a := s) rfl rfl rfl (by omega) (fun (h4 : s ≠ 0) => ?_) (fun (h4 : ¬ s ≠ 0) => ?_)
        · skip
          refine RQ.seg 4 (pc' := 50) (L' := [some (.ref 80), some (.int (iI s)), some (.int (iI w)), some (.int (iI v))]) (st' := [.int ((iI (sc 8024)) - (iI 1)), .long (lL 0), .long (lL w)]) (g1 := (HW (usc sc 8000 0) ar tx oc rl ou tl, q)) rfl ?_
          refine RQ.to (L' := [some (.ref 80), some (.int (iI s)), some (.int (iI w)), some (.int (iI v))]) (st' := [.int (iI (sc 8024 - 1)), .long (lL 0), .long (lL w)]) rfl (by simp only [iI_add, iI_sub, iI_mul, iI_neg]) ?_
          refine RQ.seg 1 (pc' := 51) (L' := [some (.ref 80), some (.int (iI s)), some (.int (iI w)), some (.int (iI v))]) (st' := [.long ((iI (sc 8024 - 1)).toInt64), .long (lL 0), .long (lL w)]) (g1 := (HW (usc sc 8000 0) ar tx oc rl ou tl, q)) rfl ?_
          refine RQ.to (L' := [some (.ref 80), some (.int (iI s)), some (.int (iI w)), some (.int (iI v))]) (st' := [.long (lL (sc 8024 - 1)), .long (lL 0), .long (lL w)]) rfl (by rw [iI_64 (by omega)]) ?_
          rcases Decidable.em (0 ≤ w ∧ w ≤ sc 8024 - 1) with h5 | h5
          · skip
            refine RQ.call rfl rfl (m_isIn_t (by omega) (by omega) (by omega) h5) ?_
            refine RQ.seg 2 (pc' := 58) (L' := [some (.ref 80), some (.int (iI s)), some (.int (iI w)), some (.int (iI v))]) (st' := [.int (iI v)]) (g1 := (HW (usc sc 8000 0) ar tx oc rl ou tl, q)) rfl ?_
            refine RQ.seg 1 (pc' := 59) (L' := [some (.ref 80), some (.int (iI s)), some (.int (iI w)), some (.int (iI v))]) (st' := [.long ((iI v).toInt64)]) (g1 := (HW (usc sc 8000 0) ar tx oc rl ou tl, q)) rfl ?_
            refine RQ.to (L' := [some (.ref 80), some (.int (iI s)), some (.int (iI w)), some (.int (iI v))]) (st' := [.long (lL v)]) rfl (by rw [iI_64 (by omega)]) ?_
            refine RQ.seg 2 (pc' := 61) (L' := [some (.ref 80), some (.int (iI s)), some (.int (iI w)), some (.int (iI v))]) (st' := [.int (iI s), .long (lL 0), .long (lL v)]) (g1 := (HW (usc sc 8000 0) ar tx oc rl ou tl, q)) rfl ?_
            refine RQ.if1 (a := s) rfl rfl rfl (by omega) (fun (h6 : s ≠ 0) => ?_) (fun (h6 : ¬ s ≠ 0) => ?_)
            · skip
              refine RQ.seg 1 (pc' := 71) (L' := [some (.ref 80), some (.int (iI s)), some (.int (iI w)), some (.int (iI v))]) (st' := [.long (lL 9), .long (lL 0), .long (lL v)]) (g1 := (HW (usc sc 8000 0) ar tx oc rl ou tl, q)) rfl ?_
              rcases Decidable.em (0 ≤ v ∧ v ≤ 9) with h7 | h7
              · skip
                refine RQ.call rfl rfl (m_isIn_t (by omega) (by omega) (by omega) h7) ?_
                refine RQ.seg 6 (pc' := 88) (L' := [some (.ref 80), some (.int (iI s)), some (.int (iI w)), some (.int (iI v))]) (st' := [.int (iI s), .int (iI (sc 8056)), .ref 111]) (g1 := (HW (usc sc 8000 0) ar tx oc rl ou tl, q)) rfl ?_
                refine RQ.iast (z := (sc 8056)) (v := s) (g1 := (HW (usc sc 8000 0) (usc ar 111 (usz (ar 111) (sc 8056) s)) tx oc rl ou tl, q)) rfl rfl rfl rfl (by omega) (by decide) (HWa_111 rfl) ?_
                refine RQ.seg 5 (pc' := 98) (L' := [some (.ref 80), some (.int (iI s)), some (.int (iI w)), some (.int (iI v))]) (st' := [.int (iI w), .int (iI (sc 8056)), .ref 112]) (g1 := (HW (usc sc 8000 0) (usc ar 111 (usz (ar 111) (sc 8056) s)) tx oc rl ou tl, q)) rfl ?_
                refine RQ.iast (z := (sc 8056)) (v := w) (g1 := (HW (usc sc 8000 0) (usc (usc ar 111 (usz (ar 111) (sc 8056) s)) 112 (usz (ar 112) (sc 8056) w)) tx oc rl ou tl, q)) rfl rfl rfl rfl (by omega) (by decide) (HWa_112 rfl) ?_
                refine RQ.seg 5 (pc' := 108) (L' := [some (.ref 80), some (.int (iI s)), some (.int (iI w)), some (.int (iI v))]) (st' := [.int (iI v), .int (iI (sc 8056)), .ref 113]) (g1 := (HW (usc sc 8000 0) (usc (usc ar 111 (usz (ar 111) (sc 8056) s)) 112 (usz (ar 112) (sc 8056) w)) tx oc rl ou tl, q)) rfl ?_
                refine RQ.iast (z := (sc 8056)) (v := v) (g1 := (HW (usc sc 8000 0) (usc (usc (usc ar 111 (usz (ar 111) (sc 8056) s)) 112 (usz (ar 112) (sc 8056) w)) 113 (usz (ar 113) (sc 8056) v)) tx oc rl ou tl, q)) rfl rfl rfl rfl (by omega) (by decide) (HWa_113 rfl) ?_
                refine RQ.seg 5 (pc' := 116) (L' := [some (.ref 80), some (.int (iI s)), some (.int (iI w)), some (.int (iI v))]) (st' := [.int ((iI (sc 8056)) + (iI 1)), .ref 80]) (g1 := (HW (usc sc 8000 0) (usc (usc (usc ar 111 (usz (ar 111) (sc 8056) s)) 112 (usz (ar 112) (sc 8056) w)) 113 (usz (ar 113) (sc 8056) v)) tx oc rl ou tl, q)) rfl ?_
                refine RQ.to (L' := [some (.ref 80), some (.int (iI s)), some (.int (iI w)), some (.int (iI v))]) (st' := [.int (iI (sc 8056 + 1)), .ref 80]) rfl (by simp only [iI_add, iI_sub, iI_mul, iI_neg]) ?_
                refine RQ.seg 3 (pc' := 123) (L' := [some (.ref 80), some (.int (iI s)), some (.int (iI w)), some (.int (iI v))]) (st' := [.int (iI (sc 8056 + 1))]) (g1 := (HW (usc (usc sc 8000 0) 8056 (sc 8056 + 1)) (usc (usc (usc ar 111 (usz (ar 111) (sc 8056) s)) 112 (usz (ar 112) (sc 8056) w)) 113 (usz (ar 113) (sc 8056) v)) tx oc rl ou tl, q)) rfl ?_
                refine RQ.ret rfl rfl ?_
                first | (exfalso; omega) | exact ⟨rfl, rfl⟩
              · skip
                refine RQ.call rfl rfl (m_isIn_f (by omega) (by omega) (by omega) h7) ?_
                refine RQ.seg 2 (pc' := 78) (L' := [some (.ref 80), some (.int (iI s)), some (.int (iI w)), some (.int (iI v))]) (st' := [.int (iI (-1))]) (g1 := (HW (usc sc 8000 0) ar tx oc rl ou tl, q)) rfl ?_
                refine RQ.ret rfl rfl ?_
                first | (exfalso; omega) | exact ⟨rfl, rfl⟩
            · skip
              refine RQ.seg 2 (pc' := 71) (L' := [some (.ref 80), some (.int (iI s)), some (.int (iI w)), some (.int (iI v))]) (st' := [.long (lL 1), .long (lL 0), .long (lL v)]) (g1 := (HW (usc sc 8000 0) ar tx oc rl ou tl, q)) rfl ?_
              rcases Decidable.em (0 ≤ v ∧ v ≤ 1) with h8 | h8
              · skip
                refine RQ.call rfl rfl (m_isIn_t (by omega) (by omega) (by omega) h8) ?_
                refine RQ.seg 6 (pc' := 88) (L' := [some (.ref 80), some (.int (iI s)), some (.int (iI w)), some (.int (iI v))]) (st' := [.int (iI s), .int (iI (sc 8056)), .ref 111]) (g1 := (HW (usc sc 8000 0) ar tx oc rl ou tl, q)) rfl ?_
                refine RQ.iast (z := (sc 8056)) (v := s) (g1 := (HW (usc sc 8000 0) (usc ar 111 (usz (ar 111) (sc 8056) s)) tx oc rl ou tl, q)) rfl rfl rfl rfl (by omega) (by decide) (HWa_111 rfl) ?_
                refine RQ.seg 5 (pc' := 98) (L' := [some (.ref 80), some (.int (iI s)), some (.int (iI w)), some (.int (iI v))]) (st' := [.int (iI w), .int (iI (sc 8056)), .ref 112]) (g1 := (HW (usc sc 8000 0) (usc ar 111 (usz (ar 111) (sc 8056) s)) tx oc rl ou tl, q)) rfl ?_
                refine RQ.iast (z := (sc 8056)) (v := w) (g1 := (HW (usc sc 8000 0) (usc (usc ar 111 (usz (ar 111) (sc 8056) s)) 112 (usz (ar 112) (sc 8056) w)) tx oc rl ou tl, q)) rfl rfl rfl rfl (by omega) (by decide) (HWa_112 rfl) ?_
                refine RQ.seg 5 (pc' := 108) (L' := [some (.ref 80), some (.int (iI s)), some (.int (iI w)), some (.int (iI v))]) (st' := [.int (iI v), .int (iI (sc 8056)), .ref 113]) (g1 := (HW (usc sc 8000 0) (usc (usc ar 111 (usz (ar 111) (sc 8056) s)) 112 (usz (ar 112) (sc 8056) w)) tx oc rl ou tl, q)) rfl ?_
                refine RQ.iast (z := (sc 8056)) (v := v) (g1 := (HW (usc sc 8000 0) (usc (usc (usc ar 111 (usz (ar 111) (sc 8056) s)) 112 (usz (ar 112) (sc 8056) w)) 113 (usz (ar 113) (sc 8056) v)) tx oc rl ou tl, q)) rfl rfl rfl rfl (by omega) (by decide) (HWa_113 rfl) ?_
                refine RQ.seg 5 (pc' := 116) (L' := [some (.ref 80), some (.int (iI s)), some (.int (iI w)), some (.int (iI v))]) (st' := [.int ((iI (sc 8056)) + (iI 1)), .ref 80]) (g1 := (HW (usc sc 8000 0) (usc (usc (usc ar 111 (usz (ar 111) (sc 8056) s)) 112 (usz (ar 112) (sc 8056) w)) 113 (usz (ar 113) (sc 8056) v)) tx oc rl ou tl, q)) rfl ?_
                refine RQ.to (L' := [some (.ref 80), some (.int (iI s)), some (.int (iI w)), some (.int (iI v))]) (st' := [.int (iI (sc 8056 + 1)), .ref 80]) rfl (by simp only [iI_add, iI_sub, iI_mul, iI_neg]) ?_
                refine RQ.seg 3 (pc' := 123) (L' := [some (.ref 80), some (.int (iI s)), some (.int (iI w)), some (.int (iI v))]) (st' := [.int (iI (sc 8056 + 1))]) (g1 := (HW (usc (usc sc 8000 0) 8056 (sc 8056 + 1)) (usc (usc (usc ar 111 (usz (ar 111) (sc 8056) s)) 112 (usz (ar 112) (sc 8056) w)) 113 (usz (ar 113) (sc 8056) v)) tx oc rl ou tl, q)) rfl ?_
                refine RQ.ret rfl rfl ?_
                first | (exfalso; omega) | exact ⟨rfl, rfl⟩
              · skip
                refine RQ.call rfl rfl (m_isIn_f (by omega) (by omega) (by omega) h8) ?_
                refine RQ.seg 2 (pc' := 78) (L' := [some (.ref 80), some (.int (iI s)), some (.int (iI w)), some (.int (iI v))]) (st' := [.int (iI (-1))]) (g1 := (HW (usc sc 8000 0) ar tx oc rl ou tl, q)) rfl ?_
                refine RQ.ret rfl rfl ?_
                first | (exfalso; omega) | exact ⟨rfl, rfl⟩
          · skip
            refine RQ.call rfl rfl (m_isIn_f (by omega) (by omega) (by omega) h5) ?_
            refine RQ.seg 2 (pc' := 78) (L' := [some (.ref 80), some (.int (iI s)), some (.int (iI w)), some (.int (iI v))]) (st' := [.int (iI (-1))]) (g1 := (HW (usc sc 8000 0) ar tx oc rl ou tl, q)) rfl ?_
            refine RQ.ret rfl rfl ?_
            first | (exfalso; omega) | exact ⟨rfl, rfl⟩
        · skip
          refine RQ.seg 2 (pc' := 51) (L' := [some (.ref 80), some (.int (iI s)), some (.int (iI w)), some (.int (iI v))]) (st' := [.long (lL 5), .long (lL 0), .long (lL w)]) (g1 := (HW (usc sc 8000 0) ar tx oc rl ou tl, q)) rfl ?_
          rcases Decidable.em (0 ≤ w ∧ w ≤ 5) with h9 | h9
          · skip
            refine RQ.call rfl rfl (m_isIn_t (by omega) (by omega) (by omega) h9) ?_
            refine RQ.seg 2 (pc' := 58) (L' := [some (.ref 80), some (.int (iI s)), some (.int (iI w)), some (.int (iI v))]) (st' := [.int (iI v)]) (g1 := (HW (usc sc 8000 0) ar tx oc rl ou tl, q)) rfl ?_
            refine RQ.seg 1 (pc' := 59) (L' := [some (.ref 80), some (.int (iI s)), some (.int (iI w)), some (.int (iI v))]) (st' := [.long ((iI v).toInt64)]) (g1 := (HW (usc sc 8000 0) ar tx oc rl ou tl, q)) rfl ?_
            refine RQ.to (L' := [some (.ref 80), some (.int (iI s)), some (.int (iI w)), some (.int (iI v))]) (st' := [.long (lL v)]) rfl (by rw [iI_64 (by omega)]) ?_
            refine RQ.seg 2 (pc' := 61) (L' := [some (.ref 80), some (.int (iI s)), some (.int (iI w)), some (.int (iI v))]) (st' := [.int (iI s), .long (lL 0), .long (lL v)]) (g1 := (HW (usc sc 8000 0) ar tx oc rl ou tl, q)) rfl ?_
            refine RQ.if1 (a := s) rfl rfl rfl (by omega) (fun (h10 : s ≠ 0) => ?_) (fun (h10 : ¬ s ≠ 0) => ?_)
            · skip
              refine RQ.seg 1 (pc' := 71) (L' := [some (.ref 80), some (.int (iI s)), some (.int (iI w)), some (.int (iI v))]) (st' := [.long (lL 9), .long (lL 0), .long (lL v)]) (g1 := (HW (usc sc 8000 0) ar tx oc rl ou tl, q)) rfl ?_
              rcases Decidable.em (0 ≤ v ∧ v ≤ 9) with h11 | h11
              · skip
                refine RQ.call rfl rfl (m_isIn_t (by omega) (by omega) (by omega) h11) ?_
                refine RQ.seg 6 (pc' := 88) (L' := [some (.ref 80), some (.int (iI s)), some (.int (iI w)), some (.int (iI v))]) (st' := [.int (iI s), .int (iI (sc 8056)), .ref 111]) (g1 := (HW (usc sc 8000 0) ar tx oc rl ou tl, q)) rfl ?_
                refine RQ.iast (z := (sc 8056)) (v := s) (g1 := (HW (usc sc 8000 0) (usc ar 111 (usz (ar 111) (sc 8056) s)) tx oc rl ou tl, q)) rfl rfl rfl rfl (by omega) (by decide) (HWa_111 rfl) ?_
                refine RQ.seg 5 (pc' := 98) (L' := [some (.ref 80), some (.int (iI s)), some (.int (iI w)), some (.int (iI v))]) (st' := [.int (iI w), .int (iI (sc 8056)), .ref 112]) (g1 := (HW (usc sc 8000 0) (usc ar 111 (usz (ar 111) (sc 8056) s)) tx oc rl ou tl, q)) rfl ?_
                refine RQ.iast (z := (sc 8056)) (v := w) (g1 := (HW (usc sc 8000 0) (usc (usc ar 111 (usz (ar 111) (sc 8056) s)) 112 (usz (ar 112) (sc 8056) w)) tx oc rl ou tl, q)) rfl rfl rfl rfl (by omega) (by decide) (HWa_112 rfl) ?_
                refine RQ.seg 5 (pc' := 108) (L' := [some (.ref 80), some (.int (iI s)), some (.int (iI w)), some (.int (iI v))]) (st' := [.int (iI v), .int (iI (sc 8056)), .ref 113]) (g1 := (HW (usc sc 8000 0) (usc (usc ar 111 (usz (ar 111) (sc 8056) s)) 112 (usz (ar 112) (sc 8056) w)) tx oc rl ou tl, q)) rfl ?_
                refine RQ.iast (z := (sc 8056)) (v := v) (g1 := (HW (usc sc 8000 0) (usc (usc (usc ar 111 (usz (ar 111) (sc 8056) s)) 112 (usz (ar 112) (sc 8056) w)) 113 (usz (ar 113) (sc 8056) v)) tx oc rl ou tl, q)) rfl rfl rfl rfl (by omega) (by decide) (HWa_113 rfl) ?_
                refine RQ.seg 5 (pc' := 116) (L' := [some (.ref 80), some (.int (iI s)), some (.int (iI w)), some (.int (iI v))]) (st' := [.int ((iI (sc 8056)) + (iI 1)), .ref 80]) (g1 := (HW (usc sc 8000 0) (usc (usc (usc ar 111 (usz (ar 111) (sc 8056) s)) 112 (usz (ar 112) (sc 8056) w)) 113 (usz (ar 113) (sc 8056) v)) tx oc rl ou tl, q)) rfl ?_
                refine RQ.to (L' := [some (.ref 80), some (.int (iI s)), some (.int (iI w)), some (.int (iI v))]) (st' := [.int (iI (sc 8056 + 1)), .ref 80]) rfl (by simp only [iI_add, iI_sub, iI_mul, iI_neg]) ?_
                refine RQ.seg 3 (pc' := 123) (L' := [some (.ref 80), some (.int (iI s)), some (.int (iI w)), some (.int (iI v))]) (st' := [.int (iI (sc 8056 + 1))]) (g1 := (HW (usc (usc sc 8000 0) 8056 (sc 8056 + 1)) (usc (usc (usc ar 111 (usz (ar 111) (sc 8056) s)) 112 (usz (ar 112) (sc 8056) w)) 113 (usz (ar 113) (sc 8056) v)) tx oc rl ou tl, q)) rfl ?_
                refine RQ.ret rfl rfl ?_
                first | (exfalso; omega) | exact ⟨rfl, rfl⟩
              · skip
                refine RQ.call rfl rfl (m_isIn_f (by omega) (by omega) (by omega) h11) ?_
                refine RQ.seg 2 (pc' := 78) (L' := [some (.ref 80), some (.int (iI s)), some (.int (iI w)), some (.int (iI v))]) (st' := [.int (iI (-1))]) (g1 := (HW (usc sc 8000 0) ar tx oc rl ou tl, q)) rfl ?_
                refine RQ.ret rfl rfl ?_
                first | (exfalso; omega) | exact ⟨rfl, rfl⟩
            · skip
              refine RQ.seg 2 (pc' := 71) (L' := [some (.ref 80), some (.int (iI s)), some (.int (iI w)), some (.int (iI v))]) (st' := [.long (lL 1), .long (lL 0), .long (lL v)]) (g1 := (HW (usc sc 8000 0) ar tx oc rl ou tl, q)) rfl ?_
              rcases Decidable.em (0 ≤ v ∧ v ≤ 1) with h12 | h12
              · skip
                refine RQ.call rfl rfl (m_isIn_t (by omega) (by omega) (by omega) h12) ?_
                refine RQ.seg 6 (pc' := 88) (L' := [some (.ref 80), some (.int (iI s)), some (.int (iI w)), some (.int (iI v))]) (st' := [.int (iI s), .int (iI (sc 8056)), .ref 111]) (g1 := (HW (usc sc 8000 0) ar tx oc rl ou tl, q)) rfl ?_
                refine RQ.iast (z := (sc 8056)) (v := s) (g1 := (HW (usc sc 8000 0) (usc ar 111 (usz (ar 111) (sc 8056) s)) tx oc rl ou tl, q)) rfl rfl rfl rfl (by omega) (by decide) (HWa_111 rfl) ?_
                refine RQ.seg 5 (pc' := 98) (L' := [some (.ref 80), some (.int (iI s)), some (.int (iI w)), some (.int (iI v))]) (st' := [.int (iI w), .int (iI (sc 8056)), .ref 112]) (g1 := (HW (usc sc 8000 0) (usc ar 111 (usz (ar 111) (sc 8056) s)) tx oc rl ou tl, q)) rfl ?_
                refine RQ.iast (z := (sc 8056)) (v := w) (g1 := (HW (usc sc 8000 0) (usc (usc ar 111 (usz (ar 111) (sc 8056) s)) 112 (usz (ar 112) (sc 8056) w)) tx oc rl ou tl, q)) rfl rfl rfl rfl (by omega) (by decide) (HWa_112 rfl) ?_
                refine RQ.seg 5 (pc' := 108) (L' := [some (.ref 80), some (.int (iI s)), some (.int (iI w)), some (.int (iI v))]) (st' := [.int (iI v), .int (iI (sc 8056)), .ref 113]) (g1 := (HW (usc sc 8000 0) (usc (usc ar 111 (usz (ar 111) (sc 8056) s)) 112 (usz (ar 112) (sc 8056) w)) tx oc rl ou tl, q)) rfl ?_
                refine RQ.iast (z := (sc 8056)) (v := v) (g1 := (HW (usc sc 8000 0) (usc (usc (usc ar 111 (usz (ar 111) (sc 8056) s)) 112 (usz (ar 112) (sc 8056) w)) 113 (usz (ar 113) (sc 8056) v)) tx oc rl ou tl, q)) rfl rfl rfl rfl (by omega) (by decide) (HWa_113 rfl) ?_
                refine RQ.seg 5 (pc' := 116) (L' := [some (.ref 80), some (.int (iI s)), some (.int (iI w)), some (.int (iI v))]) (st' := [.int ((iI (sc 8056)) + (iI 1)), .ref 80]) (g1 := (HW (usc sc 8000 0) (usc (usc (usc ar 111 (usz (ar 111) (sc 8056) s)) 112 (usz (ar 112) (sc 8056) w)) 113 (usz (ar 113) (sc 8056) v)) tx oc rl ou tl, q)) rfl ?_
                refine RQ.to (L' := [some (.ref 80), some (.int (iI s)), some (.int (iI w)), some (.int (iI v))]) (st' := [.int (iI (sc 8056 + 1)), .ref 80]) rfl (by simp only [iI_add, iI_sub, iI_mul, iI_neg]) ?_
                refine RQ.seg 3 (pc' := 123) (L' := [some (.ref 80), some (.int (iI s)), some (.int (iI w)), some (.int (iI v))]) (st' := [.int (iI (sc 8056 + 1))]) (g1 := (HW (usc (usc sc 8000 0) 8056 (sc 8056 + 1)) (usc (usc (usc ar 111 (usz (ar 111) (sc 8056) s)) 112 (usz (ar 112) (sc 8056) w)) 113 (usz (ar 113) (sc 8056) v)) tx oc rl ou tl, q)) rfl ?_
                refine RQ.ret rfl rfl ?_
                first | (exfalso; omega) | exact ⟨rfl, rfl⟩
              · skip
                refine RQ.call rfl rfl (m_isIn_f (by omega) (by omega) (by omega) h12) ?_
                refine RQ.seg 2 (pc' := 78) (L' := [some (.ref 80), some (.int (iI s)), some (.int (iI w)), some (.int (iI v))]) (st' := [.int (iI (-1))]) (g1 := (HW (usc sc 8000 0) ar tx oc rl ou tl, q)) rfl ?_
                refine RQ.ret rfl rfl ?_
                first | (exfalso; omega) | exact ⟨rfl, rfl⟩
          · skip
            refine RQ.call rfl rfl (m_isIn_f (by omega) (by omega) (by omega) h9) ?_
            refine RQ.seg 2 (pc' := 78) (L' := [some (.ref 80), some (.int (iI s)), some (.int (iI w)), some (.int (iI v))]) (st' := [.int (iI (-1))]) (g1 := (HW (usc sc 8000 0) ar tx oc rl ou tl, q)) rfl ?_
            refine RQ.ret rfl rfl ?_
            first | (exfalso; omega) | exact ⟨rfl, rfl⟩
      · skip
        refine RQ.call rfl rfl (m_isIn_f (by omega) (by omega) (by omega) h3) ?_
        refine RQ.seg 2 (pc' := 78) (L' := [some (.ref 80), some (.int (iI s)), some (.int (iI w)), some (.int (iI v))]) (st' := [.int (iI (-1))]) (g1 := (HW (usc sc 8000 0) ar tx oc rl ou tl, q)) rfl ?_
        refine RQ.ret rfl rfl ?_
        first | (exfalso; omega) | exact ⟨rfl, rfl⟩
theorem m_ash_f {K : PK} {d : Nat} {sc : Nat → Int} {ar : Nat → Int → Int} {tx oc : Nat} {rl : Nat → Option Nat} {ou : Nat → Int64} {tl : List PO} {q : Nat × Nat} {s w v : Int} {nw nb : Int} {W B : Int → Int → Int} (hF : FrOK nw nb W B) (hM : FrM (sc 8024) (sc 8025) (ar 85) (ar 86) nw nb W B) (hn1 : 0 ≤ sc 8056 ∧ sc 8056 ≤ 10) (rs : -2147483648 ≤ s ∧ s < 2147483648) (rw : -2147483648 ≤ w ∧ w < 2147483648) (rv : -2147483648 ≤ v ∧ v < 2147483648) (hc : ¬ (0 < nb ∧ sc 8056 < 10 ∧ ((s = 0 ∧ (0 ≤ w ∧ w < 6) ∧ (0 ≤ v ∧ v ≤ 1)) ∨ (s = 1 ∧ (0 ≤ w ∧ w < nw) ∧ (0 ≤ v ∧ v ≤ 9))))) : CallR K (d + 2) 219 [.ref 80, .int (iI s), .int (iI w), .int (iI v)] (HW sc ar tx oc rl ou tl, q) (some (.int (iI (-1)))) (HW (usc sc 8000 0) ar tx oc rl ou tl, q) := by
  apply CQ.x
  have hn := hF.1
  have hm1 := hM.1
  have hm2 := hM.2.1
  refine CQ.of (own := 11) (n := 4) (ini := false) (rt := (some .int)) (cd := cd219) (by decide +kernel) rfl (by decide +kernel) rfl (Nat.le_of_ble_eq_true rfl) ?_
  refine RQ.seg 5 (pc' := 9) (L' := [some (.ref 80), some (.int (iI s)), some (.int (iI w)), some (.int (iI v))]) (st' := [.int (iI (sc 8025))]) (g1 := (HW (usc sc 8000 0) ar tx oc rl ou tl, q)) rfl ?_
  refine RQ.if1 (a := (sc 8025)) rfl rfl rfl (by omega) (fun (h1 : sc 8025 = 0) => ?_) (fun (h1 : ¬ sc 8025 = 0) => ?_)
  · skip
    refine RQ.seg 1 (pc' := 78) (L' := [some (.ref 80), some (.int (iI s)), some (.int (iI w)), some (.int (iI v))]) (st' := [.int (iI (-1))]) (g1 := (HW (usc sc 8000 0) ar tx oc rl ou tl, q)) rfl ?_
    refine RQ.ret rfl rfl ?_
    first | (exfalso; omega) | exact ⟨rfl, rfl⟩
  · skip
    refine RQ.seg 3 (pc' := 18) (L' := [some (.ref 80), some (.int (iI s)), some (.int (iI w)), some (.int (iI v))]) (st' := [.int (iI 10), .int (iI (sc 8056))]) (g1 := (HW (usc sc 8000 0) ar tx oc rl ou tl, q)) rfl ?_
    refine RQ.if2 (a := (sc 8056)) (b := 10) rfl rfl rfl rfl (by omega) (by omega) (fun (h2 : sc 8056 = 10) => ?_) (fun (h2 : ¬ sc 8056 = 10) => ?_)
    · skip
      refine RQ.seg 1 (pc' := 78) (L' := [some (.ref 80), some (.int (iI s)), some (.int (iI w)), some (.int (iI v))]) (st' := [.int (iI (-1))]) (g1 := (HW (usc sc 8000 0) ar tx oc rl ou tl, q)) rfl ?_
      refine RQ.ret rfl rfl ?_
      first | (exfalso; omega) | exact ⟨rfl, rfl⟩
    · skip
      refine RQ.seg 1 (pc' := 22) (L' := [some (.ref 80), some (.int (iI s)), some (.int (iI w)), some (.int (iI v))]) (st' := [.int (iI s)]) (g1 := (HW (usc sc 8000 0) ar tx oc rl ou tl, q)) rfl ?_
      refine RQ.seg 1 (pc' := 23) (L' := [some (.ref 80), some (.int (iI s)), some (.int (iI w)), some (.int (iI v))]) (st' := [.long ((iI s).toInt64)]) (g1 := (HW (usc sc 8000 0) ar tx oc rl ou tl, q)) rfl ?_
      refine RQ.to (L' := [some (.ref 80), some (.int (iI s)), some (.int (iI w)), some (.int (iI v))]) (st' := [.long (lL s)]) rfl (by rw [iI_64 (by omega)]) ?_
      refine RQ.seg 2 (pc' := 25) (L' := [some (.ref 80), some (.int (iI s)), some (.int (iI w)), some (.int (iI v))]) (st' := [.long (lL 1), .long (lL 0), .long (lL s)]) (g1 := (HW (usc sc 8000 0) ar tx oc rl ou tl, q)) rfl ?_
      rcases Decidable.em (0 ≤ s ∧ s ≤ 1) with h3 | h3
      · skip
        refine RQ.call rfl rfl (m_isIn_t (by omega) (by omega) (by omega) h3) ?_
        refine RQ.seg 2 (pc' := 32) (L' := [some (.ref 80), some (.int (iI s)), some (.int (iI w)), some (.int (iI v))]) (st' := [.int (iI w)]) (g1 := (HW (usc sc 8000 0) ar tx oc rl ou tl, q)) rfl ?_
        refine RQ.seg 1 (pc' := 33) (L' := [some (.ref 80), some (.int (iI s)), some (.int (iI w)), some (.int (iI v))]) (st' := [.long ((iI w).toInt64)]) (g1 := (HW (usc sc 8000 0) ar tx oc rl ou tl, q)) rfl ?_
        refine RQ.to (L' := [some (.ref 80), some (.int (iI s)), some (.int (iI w)), some (.int (iI v))]) (st' := [.long (lL w)]) rfl (by rw [iI_64 (by omega)]) ?_
        refine RQ.seg 2 (pc' := 35) (L' := [some (.ref 80), some (.int (iI s)), some (.int (iI w)), some (.int (iI v))]) (st' := [.int (iI s), .long (lL 0), .long (lL w)]) (g1 := (HW (usc sc 8000 0) ar tx oc rl ou tl, q)) rfl ?_
        refine RQ.if1 (a := s) rfl rfl rfl (by omega) (fun (h4 : s ≠ 0) => ?_) (fun (h4 : ¬ s ≠ 0) => ?_)
        · skip
          refine RQ.seg 4 (pc' := 50) (L' := [some (.ref 80), some (.int (iI s)), some (.int (iI w)), some (.int (iI v))]) (st' := [.int ((iI (sc 8024)) - (iI 1)), .long (lL 0), .long (lL w)]) (g1 := (HW (usc sc 8000 0) ar tx oc rl ou tl, q)) rfl ?_
          refine RQ.to (L' := [some (.ref 80), some (.int (iI s)), some (.int (iI w)), some (.int (iI v))]) (st' := [.int (iI (sc 8024 - 1)), .long (lL 0), .long (lL w)]) rfl (by simp only [iI_add, iI_sub, iI_mul, iI_neg]) ?_
          refine RQ.seg 1 (pc' := 51) (L' := [some (.ref 80), some (.int (iI s)), some (.int (iI w)), some (.int (iI v))]) (st' := [.long ((iI (sc 8024 - 1)).toInt64), .long (lL 0), .long (lL w)]) (g1 := (HW (usc sc 8000 0) ar tx oc rl ou tl, q)) rfl ?_
          refine RQ.to (L' := [some (.ref 80), some (.int (iI s)), some (.int (iI w)), some (.int (iI v))]) (st' := [.long (lL (sc 8024 - 1)), .long (lL 0), .long (lL w)]) rfl (by rw [iI_64 (by omega)]) ?_
          rcases Decidable.em (0 ≤ w ∧ w ≤ sc 8024 - 1) with h5 | h5
          · skip
            refine RQ.call rfl rfl (m_isIn_t (by omega) (by omega) (by omega) h5) ?_
            refine RQ.seg 2 (pc' := 58) (L' := [some (.ref 80), some (.int (iI s)), some (.int (iI w)), some (.int (iI v))]) (st' := [.int (iI v)]) (g1 := (HW (usc sc 8000 0) ar tx oc rl ou tl, q)) rfl ?_
            refine RQ.seg 1 (pc' := 59) (L' := [some (.ref 80), some (.int (iI s)), some (.int (iI w)), some (.int (iI v))]) (st' := [.long ((iI v).toInt64)]) (g1 := (HW (usc sc 8000 0) ar tx oc rl ou tl, q)) rfl ?_
            refine RQ.to (L' := [some (.ref 80), some (.int (iI s)), some (.int (iI w)), some (.int (iI v))]) (st' := [.long (lL v)]) rfl (by rw [iI_64 (by omega)]) ?_
            refine RQ.seg 2 (pc' := 61) (L' := [some (.ref 80), some (.int (iI s)), some (.int (iI w)), some (.int (iI v))]) (st' := [.int (iI s), .long (lL 0), .long (lL v)]) (g1 := (HW (usc sc 8000 0) ar tx oc rl ou tl, q)) rfl ?_
            refine RQ.if1 (a := s) rfl rfl rfl (by omega) (fun (h6 : s ≠ 0) => ?_) (fun (h6 : ¬ s ≠ 0) => ?_)
            · skip
              refine RQ.seg 1 (pc' := 71) (L' := [some (.ref 80), some (.int (iI s)), some (.int (iI w)), some (.int (iI v))]) (st' := [.long (lL 9), .long (lL 0), .long (lL v)]) (g1 := (HW (usc sc 8000 0) ar tx oc rl ou tl, q)) rfl ?_
              rcases Decidable.em (0 ≤ v ∧ v ≤ 9) with h7 | h7
              · skip
                refine RQ.call rfl rfl (m_isIn_t (by omega) (by omega) (by omega) h7) ?_
                refine RQ.seg 6 (pc' := 88) (L' := [some (.ref 80), some (.int (iI s)), some (.int (iI w)), some (.int (iI v))]) (st' := [.int (iI s), .int (iI (sc 8056)), .ref 111]) (g1 := (HW (usc sc 8000 0) ar tx oc rl ou tl, q)) rfl ?_
                refine RQ.iast (z := (sc 8056)) (v := s) (g1 := (HW (usc sc 8000 0) (usc ar 111 (usz (ar 111) (sc 8056) s)) tx oc rl ou tl, q)) rfl rfl rfl rfl (by omega) (by decide) (HWa_111 rfl) ?_
                refine RQ.seg 5 (pc' := 98) (L' := [some (.ref 80), some (.int (iI s)), some (.int (iI w)), some (.int (iI v))]) (st' := [.int (iI w), .int (iI (sc 8056)), .ref 112]) (g1 := (HW (usc sc 8000 0) (usc ar 111 (usz (ar 111) (sc 8056) s)) tx oc rl ou tl, q)) rfl ?_
                refine RQ.iast (z := (sc 8056)) (v := w) (g1 := (HW (usc sc 8000 0) (usc (usc ar 111 (usz (ar 111) (sc 8056) s)) 112 (usz (ar 112) (sc 8056) w)) tx oc rl ou tl, q)) rfl rfl rfl rfl (by omega) (by decide) (HWa_112 rfl) ?_
                refine RQ.seg 5 (pc' := 108) (L' := [some (.ref 80), some (.int (iI s)), some (.int (iI w)), some (.int (iI v))]) (st' := [.int (iI v), .int (iI (sc 8056)), .ref 113]) (g1 := (HW (usc sc 8000 0) (usc (usc ar 111 (usz (ar 111) (sc 8056) s)) 112 (usz (ar 112) (sc 8056) w)) tx oc rl ou tl, q)) rfl ?_
                refine RQ.iast (z := (sc 8056)) (v := v) (g1 := (HW (usc sc 8000 0) (usc (usc (usc ar 111 (usz (ar 111) (sc 8056) s)) 112 (usz (ar 112) (sc 8056) w)) 113 (usz (ar 113) (sc 8056) v)) tx oc rl ou tl, q)) rfl rfl rfl rfl (by omega) (by decide) (HWa_113 rfl) ?_
                refine RQ.seg 5 (pc' := 116) (L' := [some (.ref 80), some (.int (iI s)), some (.int (iI w)), some (.int (iI v))]) (st' := [.int ((iI (sc 8056)) + (iI 1)), .ref 80]) (g1 := (HW (usc sc 8000 0) (usc (usc (usc ar 111 (usz (ar 111) (sc 8056) s)) 112 (usz (ar 112) (sc 8056) w)) 113 (usz (ar 113) (sc 8056) v)) tx oc rl ou tl, q)) rfl ?_
                refine RQ.to (L' := [some (.ref 80), some (.int (iI s)), some (.int (iI w)), some (.int (iI v))]) (st' := [.int (iI (sc 8056 + 1)), .ref 80]) rfl (by simp only [iI_add, iI_sub, iI_mul, iI_neg]) ?_
                refine RQ.seg 3 (pc' := 123) (L' := [some (.ref 80), some (.int (iI s)), some (.int (iI w)), some (.int (iI v))]) (st' := [.int (iI (sc 8056 + 1))]) (g1 := (HW (usc (usc sc 8000 0) 8056 (sc 8056 + 1)) (usc (usc (usc ar 111 (usz (ar 111) (sc 8056) s)) 112 (usz (ar 112) (sc 8056) w)) 113 (usz (ar 113) (sc 8056) v)) tx oc rl ou tl, q)) rfl ?_
                refine RQ.ret rfl rfl ?_
                first | (exfalso; omega) | exact ⟨rfl, rfl⟩
              · skip
                refine RQ.call rfl rfl (m_isIn_f (by omega) (by omega) (by omega) h7) ?_
                refine RQ.seg 2 (pc' := 78) (L' := [some (.ref 80), some (.int (iI s)), some (.int (iI w)), some (.int (iI v))]) (st' := [.int (iI (-1))]) (g1 := (HW (usc sc 8000 0) ar tx oc rl ou tl, q)) rfl ?_
                refine RQ.ret rfl rfl ?_
                first | (exfalso; omega) | exact ⟨rfl, rfl⟩
            · skip
              refine RQ.seg 2 (pc' := 71) (L' := [some (.ref 80), some (.int (iI s)), some (.int (iI w)), some (.int (iI v))]) (st' := [.long (lL 1), .long (lL 0), .long (lL v)]) (g1 := (HW (usc sc 8000 0) ar tx oc rl ou tl, q)) rfl ?_
              rcases Decidable.em (0 ≤ v ∧ v ≤ 1) with h8 | h8
              · skip
                refine RQ.call rfl rfl (m_isIn_t (by omega) (by omega) (by omega) h8) ?_
                refine RQ.seg 6 (pc' := 88) (L' := [some (.ref 80), some (.int (iI s)), some (.int (iI w)), some (.int (iI v))]) (st' := [.int (iI s), .int (iI (sc 8056)), .ref 111]) (g1 := (HW (usc sc 8000 0) ar tx oc rl ou tl, q)) rfl ?_
                refine RQ.iast (z := (sc 8056)) (v := s) (g1 := (HW (usc sc 8000 0) (usc ar 111 (usz (ar 111) (sc 8056) s)) tx oc rl ou tl, q)) rfl rfl rfl rfl (by omega) (by decide) (HWa_111 rfl) ?_
                refine RQ.seg 5 (pc' := 98) (L' := [some (.ref 80), some (.int (iI s)), some (.int (iI w)), some (.int (iI v))]) (st' := [.int (iI w), .int (iI (sc 8056)), .ref 112]) (g1 := (HW (usc sc 8000 0) (usc ar 111 (usz (ar 111) (sc 8056) s)) tx oc rl ou tl, q)) rfl ?_
                refine RQ.iast (z := (sc 8056)) (v := w) (g1 := (HW (usc sc 8000 0) (usc (usc ar 111 (usz (ar 111) (sc 8056) s)) 112 (usz (ar 112) (sc 8056) w)) tx oc rl ou tl, q)) rfl rfl rfl rfl (by omega) (by decide) (HWa_112 rfl) ?_
                refine RQ.seg 5 (pc' := 108) (L' := [some (.ref 80), some (.int (iI s)), some (.int (iI w)), some (.int (iI v))]) (st' := [.int (iI v), .int (iI (sc 8056)), .ref 113]) (g1 := (HW (usc sc 8000 0) (usc (usc ar 111 (usz (ar 111) (sc 8056) s)) 112 (usz (ar 112) (sc 8056) w)) tx oc rl ou tl, q)) rfl ?_
                refine RQ.iast (z := (sc 8056)) (v := v) (g1 := (HW (usc sc 8000 0) (usc (usc (usc ar 111 (usz (ar 111) (sc 8056) s)) 112 (usz (ar 112) (sc 8056) w)) 113 (usz (ar 113) (sc 8056) v)) tx oc rl ou tl, q)) rfl rfl rfl rfl (by omega) (by decide) (HWa_113 rfl) ?_
                refine RQ.seg 5 (pc' := 116) (L' := [some (.ref 80), some (.int (iI s)), some (.int (iI w)), some (.int (iI v))]) (st' := [.int ((iI (sc 8056)) + (iI 1)), .ref 80]) (g1 := (HW (usc sc 8000 0) (usc (usc (usc ar 111 (usz (ar 111) (sc 8056) s)) 112 (usz (ar 112) (sc 8056) w)) 113 (usz (ar 113) (sc 8056) v)) tx oc rl ou tl, q)) rfl ?_
                refine RQ.to (L' := [some (.ref 80), some (.int (iI s)), some (.int (iI w)), some (.int (iI v))]) (st' := [.int (iI (sc 8056 + 1)), .ref 80]) rfl (by simp only [iI_add, iI_sub, iI_mul, iI_neg]) ?_
                refine RQ.seg 3 (pc' := 123) (L' := [some (.ref 80), some (.int (iI s)), some (.int (iI w)), some (.int (iI v))]) (st' := [.int (iI (sc 8056 + 1))]) (g1 := (HW (usc (usc sc 8000 0) 8056 (sc 8056 + 1)) (usc (usc (usc ar 111 (usz (ar 111) (sc 8056) s)) 112 (usz (ar 112) (sc 8056) w)) 113 (usz (ar 113) (sc 8056) v)) tx oc rl ou tl, q)) rfl ?_
                refine RQ.ret rfl rfl ?_
                first | (exfalso; omega) | exact ⟨rfl, rfl⟩
              · skip
                refine RQ.call rfl rfl (m_isIn_f (by omega) (by omega) (by omega) h8) ?_
                refine RQ.seg 2 (pc' := 78) (L' := [some (.ref 80), some (.int (iI s)), some (.int (iI w)), some (.int (iI v))]) (st' := [.int (iI (-1))]) (g1 := (HW (usc sc 8000 0) ar tx oc rl ou tl, q)) rfl ?_
                refine RQ.ret rfl rfl ?_
                first | (exfalso; omega) | exact ⟨rfl, rfl⟩
          · skip
            refine RQ.call rfl rfl (m_isIn_f (by omega) (by omega) (by omega) h5) ?_
            refine RQ.seg 2 (pc' := 78) (L' := [some (.ref 80), some (.int (iI s)), some (.int (iI w)), some (.int (iI v))]) (st' := [.int (iI (-1))]) (g1 := (HW (usc sc 8000 0) ar tx oc rl ou tl, q)) rfl ?_
            refine RQ.ret rfl rfl ?_
            first | (exfalso; omega) | exact ⟨rfl, rfl⟩
        · skip
          refine RQ.seg 2 (pc' := 51) (L' := [some (.ref 80), some (.int (iI s)), some (.int (iI w)), some (.int (iI v))]) (st' := [.long (lL 5), .long (lL 0), .long (lL w)]) (g1 := (HW (usc sc 8000 0) ar tx oc rl ou tl, q)) rfl ?_
          rcases Decidable.em (0 ≤ w ∧ w ≤ 5) with h9 | h9
          · skip
            refine RQ.call rfl rfl (m_isIn_t (by omega) (by omega) (by omega) h9) ?_
            refine RQ.seg 2 (pc' := 58) (L' := [some (.ref 80), some (.int (iI s)), some (.int (iI w)), some (.int (iI v))]) (st' := [.int (iI v)]) (g1 := (HW (usc sc 8000 0) ar tx oc rl ou tl, q)) rfl ?_
            refine RQ.seg 1 (pc' := 59) (L' := [some (.ref 80), some (.int (iI s)), some (.int (iI w)), some (.int (iI v))]) (st' := [.long ((iI v).toInt64)]) (g1 := (HW (usc sc 8000 0) ar tx oc rl ou tl, q)) rfl ?_
            refine RQ.to (L' := [some (.ref 80), some (.int (iI s)), some (.int (iI w)), some (.int (iI v))]) (st' := [.long (lL v)]) rfl (by rw [iI_64 (by omega)]) ?_
            refine RQ.seg 2 (pc' := 61) (L' := [some (.ref 80), some (.int (iI s)), some (.int (iI w)), some (.int (iI v))]) (st' := [.int (iI s), .long (lL 0), .long (lL v)]) (g1 := (HW (usc sc 8000 0) ar tx oc rl ou tl, q)) rfl ?_
            refine RQ.if1 (a := s) rfl rfl rfl (by omega) (fun (h10 : s ≠ 0) => ?_) (fun (h10 : ¬ s ≠ 0) => ?_)
            · skip
              refine RQ.seg 1 (pc' := 71) (L' := [some (.ref 80), some (.int (iI s)), some (.int (iI w)), some (.int (iI v))]) (st' := [.long (lL 9), .long (lL 0), .long (lL v)]) (g1 := (HW (usc sc 8000 0) ar tx oc rl ou tl, q)) rfl ?_
              rcases Decidable.em (0 ≤ v ∧ v ≤ 9) with h11 | h11
              · skip
                refine RQ.call rfl rfl (m_isIn_t (by omega) (by omega) (by omega) h11) ?_
                refine RQ.seg 6 (pc' := 88) (L' := [some (.ref 80), some (.int (iI s)), some (.int (iI w)), some (.int (iI v))]) (st' := [.int (iI s), .int (iI (sc 8056)), .ref 111]) (g1 := (HW (usc sc 8000 0) ar tx oc rl ou tl, q)) rfl ?_
                refine RQ.iast (z := (sc 8056)) (v := s) (g1 := (HW (usc sc 8000 0) (usc ar 111 (usz (ar 111) (sc 8056) s)) tx oc rl ou tl, q)) rfl rfl rfl rfl (by omega) (by decide) (HWa_111 rfl) ?_
                refine RQ.seg 5 (pc' := 98) (L' := [some (.ref 80), some (.int (iI s)), some (.int (iI w)), some (.int (iI v))]) (st' := [.int (iI w), .int (iI (sc 8056)), .ref 112]) (g1 := (HW (usc sc 8000 0) (usc ar 111 (usz (ar 111) (sc 8056) s)) tx oc rl ou tl, q)) rfl ?_
                refine RQ.iast (z := (sc 8056)) (v := w) (g1 := (HW (usc sc 8000 0) (usc (usc ar 111 (usz (ar 111) (sc 8056) s)) 112 (usz (ar 112) (sc 8056) w)) tx oc rl ou tl, q)) rfl rfl rfl rfl (by omega) (by decide) (HWa_112 rfl) ?_
                refine RQ.seg 5 (pc' := 108) (L' := [some (.ref 80), some (.int (iI s)), some (.int (iI w)), some (.int (iI v))]) (st' := [.int (iI v), .int (iI (sc 8056)), .ref 113]) (g1 := (HW (usc sc 8000 0) (usc (usc ar 111 (usz (ar 111) (sc 8056) s)) 112 (usz (ar 112) (sc 8056) w)) tx oc rl ou tl, q)) rfl ?_
                refine RQ.iast (z := (sc 8056)) (v := v) (g1 := (HW (usc sc 8000 0) (usc (usc (usc ar 111 (usz (ar 111) (sc 8056) s)) 112 (usz (ar 112) (sc 8056) w)) 113 (usz (ar 113) (sc 8056) v)) tx oc rl ou tl, q)) rfl rfl rfl rfl (by omega) (by decide) (HWa_113 rfl) ?_
                refine RQ.seg 5 (pc' := 116) (L' := [some (.ref 80), some (.int (iI s)), some (.int (iI w)), some (.int (iI v))]) (st' := [.int ((iI (sc 8056)) + (iI 1)), .ref 80]) (g1 := (HW (usc sc 8000 0) (usc (usc (usc ar 111 (usz (ar 111) (sc 8056) s)) 112 (usz (ar 112) (sc 8056) w)) 113 (usz (ar 113) (sc 8056) v)) tx oc rl ou tl, q)) rfl ?_
                refine RQ.to (L' := [some (.ref 80), some (.int (iI s)), some (.int (iI w)), some (.int (iI v))]) (st' := [.int (iI (sc 8056 + 1)), .ref 80]) rfl (by simp only [iI_add, iI_sub, iI_mul, iI_neg]) ?_
                refine RQ.seg 3 (pc' := 123) (L' := [some (.ref 80), some (.int (iI s)), some (.int (iI w)), some (.int (iI v))]) (st' := [.int (iI (sc 8056 + 1))]) (g1 := (HW (usc (usc sc 8000 0) 8056 (sc 8056 + 1)) (usc (usc (usc ar 111 (usz (ar 111) (sc 8056) s)) 112 (usz (ar 112) (sc 8056) w)) 113 (usz (ar 113) (sc 8056) v)) tx oc rl ou tl, q)) rfl ?_
                refine RQ.ret rfl rfl ?_
                first | (exfalso; omega) | exact ⟨rfl, rfl⟩
              · skip
                refine RQ.call rfl rfl (m_isIn_f (by omega) (by omega) (by omega) h11) ?_
                refine RQ.seg 2 (pc' := 78) (L' := [some (.ref 80), some (.int (iI s)), some (.int (iI w)), some (.int (iI v))]) (st' := [.int (iI (-1))]) (g1 := (HW (usc sc 8000 0) ar tx oc rl ou tl, q)) rfl ?_
                refine RQ.ret rfl rfl ?_
                first | (exfalso; omega) | exact ⟨rfl, rfl⟩
            · skip
              refine RQ.seg 2 (pc' := 71) (L' := [some (.ref 80), some (.int (iI s)), some (.int (iI w)), some (.int (iI v))]) (st' := [.long (lL 1), .long (lL 0), .long (lL v)]) (g1 := (HW (usc sc 8000 0) ar tx oc rl ou tl, q)) rfl ?_
              rcases Decidable.em (0 ≤ v ∧ v ≤ 1) with h12 | h12
              · skip
                refine RQ.call rfl rfl (m_isIn_t (by omega) (by omega) (by omega) h12) ?_
                refine RQ.seg 6 (pc' := 88) (L' := [some (.ref 80), some (.int (iI s)), some (.int (iI w)), some (.int (iI v))]) (st' := [.int (iI s), .int (iI (sc 8056)), .ref 111]) (g1 := (HW (usc sc 8000 0) ar tx oc rl ou tl, q)) rfl ?_
                refine RQ.iast (z := (sc 8056)) (v := s) (g1 := (HW (usc sc 8000 0) (usc ar 111 (usz (ar 111) (sc 8056) s)) tx oc rl ou tl, q)) rfl rfl rfl rfl (by omega) (by decide) (HWa_111 rfl) ?_
                refine RQ.seg 5 (pc' := 98) (L' := [some (.ref 80), some (.int (iI s)), some (.int (iI w)), some (.int (iI v))]) (st' := [.int (iI w), .int (iI (sc 8056)), .ref 112]) (g1 := (HW (usc sc 8000 0) (usc ar 111 (usz (ar 111) (sc 8056) s)) tx oc rl ou tl, q)) rfl ?_
                refine RQ.iast (z := (sc 8056)) (v := w) (g1 := (HW (usc sc 8000 0) (usc (usc ar 111 (usz (ar 111) (sc 8056) s)) 112 (usz (ar 112) (sc 8056) w)) tx oc rl ou tl, q)) rfl rfl rfl rfl (by omega) (by decide) (HWa_112 rfl) ?_
                refine RQ.seg 5 (pc' := 108) (L' := [some (.ref 80), some (.int (iI s)), some (.int (iI w)), some (.int (iI v))]) (st' := [.int (iI v), .int (iI (sc 8056)), .ref 113]) (g1 := (HW (usc sc 8000 0) (usc (usc ar 111 (usz (ar 111) (sc 8056) s)) 112 (usz (ar 112) (sc 8056) w)) tx oc rl ou tl, q)) rfl ?_
                refine RQ.iast (z := (sc 8056)) (v := v) (g1 := (HW (usc sc 8000 0) (usc (usc (usc ar 111 (usz (ar 111) (sc 8056) s)) 112 (usz (ar 112) (sc 8056) w)) 113 (usz (ar 113) (sc 8056) v)) tx oc rl ou tl, q)) rfl rfl rfl rfl (by omega) (by decide) (HWa_113 rfl) ?_
                refine RQ.seg 5 (pc' := 116) (L' := [some (.ref 80), some (.int (iI s)), some (.int (iI w)), some (.int (iI v))]) (st' := [.int ((iI (sc 8056)) + (iI 1)), .ref 80]) (g1 := (HW (usc sc 8000 0) (usc (usc (usc ar 111 (usz (ar 111) (sc 8056) s)) 112 (usz (ar 112) (sc 8056) w)) 113 (usz (ar 113) (sc 8056) v)) tx oc rl ou tl, q)) rfl ?_
                refine RQ.to (L' := [some (.ref 80), some (.int (iI s)), some (.int (iI w)), some (.int (iI v))]) (st' := [.int (iI (sc 8056 + 1)), .ref 80]) rfl (by simp only [iI_add, iI_sub, iI_mul, iI_neg]) ?_
                refine RQ.seg 3 (pc' := 123) (L' := [some (.ref 80), some (.int (iI s)), some (.int (iI w)), some (.int (iI v))]) (st' := [.int (iI (sc 8056 + 1))]) (g1 := (HW (usc (usc sc 8000 0) 8056 (sc 8056 + 1)) (usc (usc (usc ar 111 (usz (ar 111) (sc 8056) s)) 112 (usz (ar 112) (sc 8056) w)) 113 (usz (ar 113) (sc 8056) v)) tx oc rl ou tl, q)) rfl ?_
                refine RQ.ret rfl rfl ?_
                first | (exfalso; omega) | exact ⟨rfl, rfl⟩
              · skip
                refine RQ.call rfl rfl (m_isIn_f (by omega) (by omega) (by omega) h12) ?_
                refine RQ.seg 2 (pc' := 78) (L' := [some (.ref 80), some (.int (iI s)), some (.int (iI w)), some (.int (iI v))]) (st' := [.int (iI (-1))]) (g1 := (HW (usc sc 8000 0) ar tx oc rl ou tl, q)) rfl ?_
                refine RQ.ret rfl rfl ?_
                first | (exfalso; omega) | exact ⟨rfl, rfl⟩
          · skip
            refine RQ.call rfl rfl (m_isIn_f (by omega) (by omega) (by omega) h9) ?_
            refine RQ.seg 2 (pc' := 78) (L' := [some (.ref 80), some (.int (iI s)), some (.int (iI w)), some (.int (iI v))]) (st' := [.int (iI (-1))]) (g1 := (HW (usc sc 8000 0) ar tx oc rl ou tl, q)) rfl ?_
            refine RQ.ret rfl rfl ?_
            first | (exfalso; omega) | exact ⟨rfl, rfl⟩
      · skip
        refine RQ.call rfl rfl (m_isIn_f (by omega) (by omega) (by omega) h3) ?_
        refine RQ.seg 2 (pc' := 78) (L' := [some (.ref 80), some (.int (iI s)), some (.int (iI w)), some (.int (iI v))]) (st' := [.int (iI (-1))]) (g1 := (HW (usc sc 8000 0) ar tx oc rl ou tl, q)) rfl ?_
        refine RQ.ret rfl rfl ?_
        first | (exfalso; omega) | exact ⟨rfl, rfl⟩
theorem m_so_f {K : PK} {d : Nat} {sc : Nat → Int} {ar : Nat → Int → Int} {tx oc : Nat} {rl : Nat → Option Nat} {ou : Nat → Int64} {tl : List PO} {q : Nat × Nat} {Q : Option Value → PG → Prop} {i : Int} {nw nb : Int} {W B : Int → Int → Int} (hF : FrOK nw nb W B) (hM : FrM (sc 8024) (sc 8025) (ar 85) (ar 86) nw nb W B) {law : Int → Int} (hJ : JdgP nw nb W B (PI nw nb W B i) law sc ar) (hPf : ∀ c, 0 ≤ c → c < nb → ar 96 c = PI nw nb W B i c) {Z : SS} (hZ : SeO Z (sc 8056) (ar 87) (ar 91) (ar 111) (ar 112) (ar 113)) (hA : AsOK nw Z) {k : Nat} (hk0 : (k : Int) < zN Z) (hzw : 0 ≤ zw Z (k : Int) ∧ zw Z (k : Int) < 10) (hk : RQ K (d + 2) 11 false (some .boolean) cd220 106 [some (.ref 80), some (.int (iI (k : Int))), some (.int (iI (ftn nw nb W B i (zw Z (k : Int)) nb.toNat))), some (.int (iI nb))] [] (HW sc ar tx oc rl ou tl, q) Q) : ∀ (m b : Nat) (hm : (b : Int) + m = nb), RQ K (d + 2) 11 false (some .boolean) cd220 55 [some (.ref 80), some (.int (iI (k : Int))), some (.int (iI (ftn nw nb W B i (zw Z (k : Int)) b))), some (.int (iI (b : Int)))] [] (HW sc ar tx oc rl ou tl, q) Q
  | 0, b, hm => by
    have hn := hF.1
    have hm1 := hM.1
    have hm2 := hM.2.1
    have hA1 := hA.1
    have hfr := ftn_r (nw := nw) (nb := nb) (W := W) (B := B) (i := i) (w := zw Z (k : Int)) b
    refine RQ.seg 3 (pc' := 60) (L' := [some (.ref 80), some (.int (iI (k : Int))), some (.int (iI (ftn nw nb W B i (zw Z (k : Int)) b))), some (.int (iI (b : Int)))]) (st' := [.int (iI (sc 8025)), .int (iI (b : Int))]) (g1 := (HW sc ar tx oc rl ou tl, q)) rfl ?_
    refine RQ.if2 (a := (b : Int)) (b := (sc 8025)) rfl rfl rfl rfl (by omega) (by omega) (fun _ => ?_) (fun (q : ¬ sc 8025 ≤ (b : Int)) => absurd (show sc 8025 ≤ (b : Int) from by omega) q)
    obtain rfl : nb = (b : Int) := by omega
    exact hk
  | m + 1, b, hm => by
    have hn := hF.1
    have hm1 := hM.1
    have hm2 := hM.2.1
    have hA1 := hA.1
    have hfr := ftn_r (nw := nw) (nb := nb) (W := W) (B := B) (i := i) (w := zw Z (k : Int)) b
    have hpr := PI_r hF i (b := (b : Int)) (by omega)
    refine RQ.seg 3 (pc' := 60) (L' := [some (.ref 80), some (.int (iI (k : Int))), some (.int (iI (ftn nw nb W B i (zw Z (k : Int)) b))), some (.int (iI (b : Int)))]) (st' := [.int (iI (sc 8025)), .int (iI (b : Int))]) (g1 := (HW sc ar tx oc rl ou tl, q)) rfl ?_
    refine RQ.if2 (a := (b : Int)) (b := (sc 8025)) rfl rfl rfl rfl (by omega) (by omega) (fun (q : sc 8025 ≤ (b : Int)) => absurd q (show ¬ sc 8025 ≤ (b : Int) from by omega)) (fun _ => ?_)
    refine RQ.seg 3 (pc' := 68) (L' := [some (.ref 80), some (.int (iI (k : Int))), some (.int (iI (ftn nw nb W B i (zw Z (k : Int)) b))), some (.int (iI (b : Int)))]) (st' := [.int (iI (sc 8046)), .int (iI (ftn nw nb W B i (zw Z (k : Int)) b))]) (g1 := (HW sc ar tx oc rl ou tl, q)) rfl ?_
    refine RQ.to (L' := [some (.ref 80), some (.int (iI (k : Int))), some (.int (iI (ftn nw nb W B i (zw Z (k : Int)) b))), some (.int (iI (b : Int)))]) (st' := [.int (iI (mkb nb B (PI nw nb W B i))), .int (iI (ftn nw nb W B i (zw Z (k : Int)) b))]) rfl (by rw [show sc 8046 = mkb nb B (PI nw nb W B i) from hJ.2.2.1]) ?_
    refine RQ.seg 1 (pc' := 69) (L' := [some (.ref 80), some (.int (iI (k : Int))), some (.int (iI (ftn nw nb W B i (zw Z (k : Int)) b))), some (.int (iI (b : Int)))]) (st' := [.int (iI (b : Int)), .int (iI (mkb nb B (PI nw nb W B i))), .int (iI (ftn nw nb W B i (zw Z (k : Int)) b))]) (g1 := (HW sc ar tx oc rl ou tl, q)) rfl ?_
    rcases (show rbk nw nb W B i (b : Int) = 1 ∨ rbk nw nb W B i (b : Int) = 0 by have := rbk_r (nw := nw) (nb := nb) (W := W) (B := B) i (b : Int); omega) with hbk | hbk
    · skip
      refine RQ.call rfl rfl (CallR.up (d := 1) (m_hasB_t (d := 0) (by omega) (by omega) hbk) (by omega)) ?_
      refine RQ.seg 2 (pc' := 98) (L' := [some (.ref 80), some (.int (iI (k : Int))), some (.int (iI (ftn nw nb W B i (zw Z (k : Int)) b))), some (.int (iI (b : Int)))]) (st' := [.int (iI 0), .int (iI (ftn nw nb W B i (zw Z (k : Int)) b))]) (g1 := (HW sc ar tx oc rl ou tl, q)) rfl ?_
      refine RQ.ior0 (a := ftn nw nb W B i (zw Z (k : Int)) b) rfl rfl rfl ?_
      refine RQ.seg 3 (pc' := 55) (L' := [some (.ref 80), some (.int (iI (k : Int))), some (.int (iI (ftn nw nb W B i (zw Z (k : Int)) b))), some (.int ((iI (b : Int)) + (iI 1)))]) (st' := []) (g1 := (HW sc ar tx oc rl ou tl, q)) rfl ?_
      refine RQ.to (L' := [some (.ref 80), some (.int (iI (k : Int))), some (.int (iI (ftn nw nb W B i (zw Z (k : Int)) b))), some (.int (iI ((b : Int) + 1)))]) (st' := []) (by simp only [iI_add, iI_sub, iI_mul, iI_neg]) rfl ?_
      have e9 : ftn nw nb W B i (zw Z (k : Int)) b = ftn nw nb W B i (zw Z (k : Int)) (b + 1) := by rw [ftn]; first | rw [if_pos (by omega)] | rw [if_neg (by omega)]
      have e10 := m_so_f (K := K) (d := d) hF hM hJ hPf hZ hA hk0 hzw hk m (b + 1) (by omega)
      rw [← e9] at e10
      exact e10
    · skip
      refine RQ.call rfl rfl (CallR.up (d := 1) (m_hasB_f (d := 0) (by omega) (by omega) hbk) (by omega)) ?_
      refine RQ.seg 4 (pc' := 80) (L' := [some (.ref 80), some (.int (iI (k : Int))), some (.int (iI (ftn nw nb W B i (zw Z (k : Int)) b))), some (.int (iI (b : Int)))]) (st' := [.int (iI (b : Int)), .ref 96, .int (iI (ftn nw nb W B i (zw Z (k : Int)) b))]) (g1 := (HW sc ar tx oc rl ou tl, q)) rfl ?_
      refine RQ.ialdv (z := (b : Int)) (v := (PI nw nb W B i (b : Int))) rfl rfl rfl (by omega) (by decide) (hPf (b : Int) (by omega) (by omega)) ?_
      refine RQ.seg 1 (pc' := 83) (L' := [some (.ref 80), some (.int (iI (k : Int))), some (.int (iI (ftn nw nb W B i (zw Z (k : Int)) b))), some (.int (iI (b : Int)))]) (st' := [.int (iI 10), .int (iI (PI nw nb W B i (b : Int))), .int (iI (ftn nw nb W B i (zw Z (k : Int)) b))]) (g1 := (HW sc ar tx oc rl ou tl, q)) rfl ?_
      refine RQ.idiv (a := (PI nw nb W B i (b : Int))) (b := 10) rfl rfl rfl (by omega) (by omega) ?_
      refine RQ.seg 3 (pc' := 89) (L' := [some (.ref 80), some (.int (iI (k : Int))), some (.int (iI (ftn nw nb W B i (zw Z (k : Int)) b))), some (.int (iI (b : Int)))]) (st' := [.int (iI (k : Int)), .ref 112, .int (iI ((PI nw nb W B i (b : Int)) / 10)), .int (iI (ftn nw nb W B i (zw Z (k : Int)) b))]) (g1 := (HW sc ar tx oc rl ou tl, q)) rfl ?_
      refine RQ.ialdv (z := (k : Int)) (v := (zw Z (k : Int))) rfl rfl rfl (by omega) (by decide) (hZ.2.2.2 (k : Int) (by omega) (by omega)).2.1 ?_
      refine RQ.if2 (a := ((PI nw nb W B i (b : Int)) / 10)) (b := (zw Z (k : Int))) rfl rfl rfl rfl (by omega) (by omega) (fun (h2 : (PI nw nb W B i (b : Int)) / 10 ≠ zw Z (k : Int)) => ?_) (fun (h2 : ¬ (PI nw nb W B i (b : Int)) / 10 ≠ zw Z (k : Int)) => ?_)
      · skip
        refine RQ.seg 1 (pc' := 98) (L' := [some (.ref 80), some (.int (iI (k : Int))), some (.int (iI (ftn nw nb W B i (zw Z (k : Int)) b))), some (.int (iI (b : Int)))]) (st' := [.int (iI 0), .int (iI (ftn nw nb W B i (zw Z (k : Int)) b))]) (g1 := (HW sc ar tx oc rl ou tl, q)) rfl ?_
        refine RQ.ior0 (a := ftn nw nb W B i (zw Z (k : Int)) b) rfl rfl rfl ?_
        refine RQ.seg 3 (pc' := 55) (L' := [some (.ref 80), some (.int (iI (k : Int))), some (.int (iI (ftn nw nb W B i (zw Z (k : Int)) b))), some (.int ((iI (b : Int)) + (iI 1)))]) (st' := []) (g1 := (HW sc ar tx oc rl ou tl, q)) rfl ?_
        refine RQ.to (L' := [some (.ref 80), some (.int (iI (k : Int))), some (.int (iI (ftn nw nb W B i (zw Z (k : Int)) b))), some (.int (iI ((b : Int) + 1)))]) (st' := []) (by simp only [iI_add, iI_sub, iI_mul, iI_neg]) rfl ?_
        have e9 : ftn nw nb W B i (zw Z (k : Int)) b = ftn nw nb W B i (zw Z (k : Int)) (b + 1) := by rw [ftn]; first | rw [if_pos (by omega)] | rw [if_neg (by omega)]
        have e10 := m_so_f (K := K) (d := d) hF hM hJ hPf hZ hA hk0 hzw hk m (b + 1) (by omega)
        rw [← e9] at e10
        exact e10
      · skip
        refine RQ.seg 2 (pc' := 98) (L' := [some (.ref 80), some (.int (iI (k : Int))), some (.int (iI (ftn nw nb W B i (zw Z (k : Int)) b))), some (.int (iI (b : Int)))]) (st' := [.int (iI 1), .int (iI (ftn nw nb W B i (zw Z (k : Int)) b))]) (g1 := (HW sc ar tx oc rl ou tl, q)) rfl ?_
        refine RQ.iorq (v := 1) rfl (by rcases (show ftn nw nb W B i (zw Z (k : Int)) b = 0 ∨ ftn nw nb W B i (zw Z (k : Int)) b = 1 by omega) with z | z <;> rw [z] <;> decide) ?_
        refine RQ.seg 3 (pc' := 55) (L' := [some (.ref 80), some (.int (iI (k : Int))), some (.int (iI 1)), some (.int ((iI (b : Int)) + (iI 1)))]) (st' := []) (g1 := (HW sc ar tx oc rl ou tl, q)) rfl ?_
        refine RQ.to (L' := [some (.ref 80), some (.int (iI (k : Int))), some (.int (iI 1)), some (.int (iI ((b : Int) + 1)))]) (st' := []) (by simp only [iI_add, iI_sub, iI_mul, iI_neg]) rfl ?_
        have e9 : 1 = ftn nw nb W B i (zw Z (k : Int)) (b + 1) := by rw [ftn]; first | rw [if_pos (by omega)] | rw [if_neg (by omega)]
        have e10 := m_so_f (K := K) (d := d) hF hM hJ hPf hZ hA hk0 hzw hk m (b + 1) (by omega)
        rw [← e9] at e10
        exact e10
theorem m_so_l {K : PK} {d : Nat} {sc : Nat → Int} {ar : Nat → Int → Int} {tx oc : Nat} {rl : Nat → Option Nat} {ou : Nat → Int64} {tl : List PO} {q : Nat × Nat} {Q : Option Value → PG → Prop} {i : Int} {nw nb : Int} {W B : Int → Int → Int} (hF : FrOK nw nb W B) (hM : FrM (sc 8024) (sc 8025) (ar 85) (ar 86) nw nb W B) {law : Int → Int} (hJ : JdgP nw nb W B (PI nw nb W B i) law sc ar) (hPf : ∀ c, 0 ≤ c → c < nb → ar 96 c = PI nw nb W B i c) {Z : SS} (hZ : SeO Z (sc 8056) (ar 87) (ar 91) (ar 111) (ar 112) (ar 113)) (hA : AsOK nw Z) (hk : Q (some (.int (iI (sof nw nb W B Z i)))) (HW sc ar tx oc rl ou tl, q)) : ∀ (m k : Nat) (e2 e3 : Option Value) (hm : (k : Int) + m = zN Z) (hs : son nw nb W B Z i k = true), RQ K (d + 2) 11 false (some .boolean) cd220 2 [some (.ref 80), some (.int (iI (k : Int))), e2, e3] [] (HW sc ar tx oc rl ou tl, q) Q
  | 0, k, e2, e3, hm, hs => by
    have hn := hF.1
    have hm1 := hM.1
    have hm2 := hM.2.1
    have hA1 := hA.1
    have hna : sc 8056 = zN Z := hZ.2.2.1
    refine RQ.seg 3 (pc' := 7) (L' := [some (.ref 80), some (.int (iI (k : Int))), e2, e3]) (st' := [.int (iI (sc 8056)), .int (iI (k : Int))]) (g1 := (HW sc ar tx oc rl ou tl, q)) rfl ?_
    refine RQ.to (L' := [some (.ref 80), some (.int (iI (k : Int))), e2, e3]) (st' := [.int (iI (zN Z)), .int (iI (k : Int))]) rfl (by rw [show sc 8056 = zN Z from hna]) ?_
    refine RQ.if2 (a := (k : Int)) (b := (zN Z)) rfl rfl rfl rfl (by omega) (by omega) (fun _ => ?_) (fun (q : ¬ zN Z ≤ (k : Int)) => absurd (show zN Z ≤ (k : Int) from by omega) q)
    refine RQ.seg 1 (pc' := 125) (L' := [some (.ref 80), some (.int (iI (k : Int))), e2, e3]) (st' := [.int (iI 1)]) (g1 := (HW sc ar tx oc rl ou tl, q)) rfl ?_
    refine RQ.ret rfl rfl ?_
    have e9 : sof nw nb W B Z i = 1 := by unfold sof; rw [show (zN Z).toNat = k by omega]; exact if_pos hs
    rw [e9] at hk
    exact hk
  | m + 1, k, e2, e3, hm, hs => by
    have hn := hF.1
    have hm1 := hM.1
    have hm2 := hM.2.1
    have hA1 := hA.1
    have hna : sc 8056 = zN Z := hZ.2.2.1
    have hAk := hA.2 (k : Int) (by omega) (by omega)
    have hsok := svn_ok hF (PI_ok hF i)
    refine RQ.seg 3 (pc' := 7) (L' := [some (.ref 80), some (.int (iI (k : Int))), e2, e3]) (st' := [.int (iI (sc 8056)), .int (iI (k : Int))]) (g1 := (HW sc ar tx oc rl ou tl, q)) rfl ?_
    refine RQ.to (L' := [some (.ref 80), some (.int (iI (k : Int))), e2, e3]) (st' := [.int (iI (zN Z)), .int (iI (k : Int))]) rfl (by rw [show sc 8056 = zN Z from hna]) ?_
    refine RQ.if2 (a := (k : Int)) (b := (zN Z)) rfl rfl rfl rfl (by omega) (by omega) (fun (q : zN Z ≤ (k : Int)) => absurd q (show ¬ zN Z ≤ (k : Int) from by omega)) (fun _ => ?_)
    refine RQ.seg 5 (pc' := 17) (L' := [some (.ref 80), some (.int (iI (k : Int))), some (.int (iI 0)), e3]) (st' := [.int (iI (k : Int)), .ref 111]) (g1 := (HW sc ar tx oc rl ou tl, q)) rfl ?_
    refine RQ.ialdv (z := (k : Int)) (v := (zs Z (k : Int))) rfl rfl rfl (by omega) (by decide) (hZ.2.2.2 (k : Int) (by omega) (by omega)).1 ?_
    refine RQ.seg 1 (pc' := 19) (L' := [some (.ref 80), some (.int (iI (k : Int))), some (.int (iI 0)), e3]) (st' := [.int (iI 1), .int (iI (zs Z (k : Int)))]) (g1 := (HW sc ar tx oc rl ou tl, q)) rfl ?_
    refine RQ.if2 (a := (zs Z (k : Int))) (b := 1) rfl rfl rfl rfl (by omega) (by omega) (fun (h2 : zs Z (k : Int) ≠ 1) => ?_) (fun (h2 : ¬ zs Z (k : Int) ≠ 1) => ?_)
    · skip
      have ev : asv nw nb W B Z i (k : Int) = ftn nw nb W B i (zw Z (k : Int)) nb.toNat := by unfold asv; rw [if_neg (by omega)]
      refine RQ.seg 2 (pc' := 55) (L' := [some (.ref 80), some (.int (iI (k : Int))), some (.int (iI 0)), some (.int (iI 0))]) (st' := []) (g1 := (HW sc ar tx oc rl ou tl, q)) rfl ?_
      have hfr := ftn_r (nw := nw) (nb := nb) (W := W) (B := B) (i := i) (w := zw Z (k : Int)) nb.toNat
      refine m_so_f hF hM hJ hPf hZ hA (k := k) (by omega) (by omega) ?_ nb.toNat 0 (by omega)
      refine RQ.seg 4 (pc' := 112) (L' := [some (.ref 80), some (.int (iI (k : Int))), some (.int (iI (ftn nw nb W B i (zw Z (k : Int)) nb.toNat))), some (.int (iI nb))]) (st' := [.int (iI (k : Int)), .ref 113, .int (iI (ftn nw nb W B i (zw Z (k : Int)) nb.toNat))]) (g1 := (HW sc ar tx oc rl ou tl, q)) rfl ?_
      refine RQ.ialdv (z := (k : Int)) (v := (zv Z (k : Int))) rfl rfl rfl (by omega) (by decide) (hZ.2.2.2 (k : Int) (by omega) (by omega)).2.2 ?_
      refine RQ.if2 (a := (ftn nw nb W B i (zw Z (k : Int)) nb.toNat)) (b := (zv Z (k : Int))) rfl rfl rfl rfl (by omega) (by omega) (fun (h3 : ftn nw nb W B i (zw Z (k : Int)) nb.toNat = zv Z (k : Int)) => ?_) (fun (h3 : ¬ ftn nw nb W B i (zw Z (k : Int)) nb.toNat = zv Z (k : Int)) => ?_)
      · skip
        refine RQ.seg 2 (pc' := 2) (L' := [some (.ref 80), some (.int ((iI (k : Int)) + (iI 1))), some (.int (iI (ftn nw nb W B i (zw Z (k : Int)) nb.toNat))), some (.int (iI nb))]) (st' := []) (g1 := (HW sc ar tx oc rl ou tl, q)) rfl ?_
        refine RQ.to (L' := [some (.ref 80), some (.int (iI ((k : Int) + 1))), some (.int (iI (ftn nw nb W B i (zw Z (k : Int)) nb.toNat))), some (.int (iI nb))]) (st' := []) (by simp only [iI_add, iI_sub, iI_mul, iI_neg]) rfl ?_
        exact m_so_l hF hM hJ hPf hZ hA hk m (k + 1) _ _ (by omega) (by rw [son, hs, Bool.true_and]; exact decide_eq_true (by omega))
      · skip
        refine RQ.seg 1 (pc' := 117) (L' := [some (.ref 80), some (.int (iI (k : Int))), some (.int (iI (ftn nw nb W B i (zw Z (k : Int)) nb.toNat))), some (.int (iI nb))]) (st' := [.int (iI 0)]) (g1 := (HW sc ar tx oc rl ou tl, q)) rfl ?_
        refine RQ.ret rfl rfl ?_
        rw [sof_0 (k := k) (by omega) (by omega)] at hk
        exact hk
    · skip
      have ev : asv nw nb W B Z i (k : Int) = W (zw Z (k : Int)) 2 - sL (svn nb W B (PI nw nb W B i)) (zw Z (k : Int)) := by unfold asv; rw [if_pos (by omega), ← swn_w hF (by omega)]
      refine RQ.seg 6 (pc' := 32) (L' := [some (.ref 80), some (.int (iI (k : Int))), some (.int (iI 0)), e3]) (st' := [.int (iI (k : Int)), .ref 112, .int (iI 4), .ref 85]) (g1 := (HW sc ar tx oc rl ou tl, q)) rfl ?_
      refine RQ.ialdv (z := (k : Int)) (v := (zw Z (k : Int))) rfl rfl rfl (by omega) (by decide) (hZ.2.2.2 (k : Int) (by omega) (by omega)).2.1 ?_
      refine RQ.seg 3 (pc' := 36) (L' := [some (.ref 80), some (.int (iI (k : Int))), some (.int (iI 0)), e3]) (st' := [.int (((iI 4) * (iI (zw Z (k : Int)))) + (iI 2)), .ref 85]) (g1 := (HW sc ar tx oc rl ou tl, q)) rfl ?_
      have hwk : 0 ≤ zw Z (k : Int) ∧ zw Z (k : Int) < nw := by omega
      have hWk := hF.2.1 (zw Z (k : Int)) hwk.1 hwk.2
      have hlk := hsok.1 (zw Z (k : Int)) hwk.1 hwk.2
      refine RQ.ialdv (z := (4 * (zw Z (k : Int)) + 2)) (v := (W (zw Z (k : Int)) 2)) rfl (by simp only [iI_add, iI_sub, iI_mul, iI_neg]) rfl (by omega) (by decide) (frm_w2 hM hwk.1 hwk.2) ?_
      refine RQ.seg 5 (pc' := 46) (L' := [some (.ref 80), some (.int (iI (k : Int))), some (.int (iI 0)), e3]) (st' := [.int (iI (k : Int)), .ref 112, .ref 101, .int (iI (W (zw Z (k : Int)) 2))]) (g1 := (HW sc ar tx oc rl ou tl, q)) rfl ?_
      refine RQ.ialdv (z := (k : Int)) (v := (zw Z (k : Int))) rfl rfl rfl (by omega) (by decide) (hZ.2.2.2 (k : Int) (by omega) (by omega)).2.1 ?_
      refine RQ.ialdv (z := (zw Z (k : Int))) (v := (sL (svn nb W B (PI nw nb W B i)) (zw Z (k : Int)))) rfl rfl rfl (by omega) (by decide) (hJ.2.1.1 (zw Z (k : Int)) hwk.1 hwk.2).1 ?_
      refine RQ.seg 7 (pc' := 112) (L' := [some (.ref 80), some (.int (iI (k : Int))), some (.int ((iI (W (zw Z (k : Int)) 2)) - (iI (sL (svn nb W B (PI nw nb W B i)) (zw Z (k : Int)))))), e3]) (st' := [.int (iI (k : Int)), .ref 113, .int ((iI (W (zw Z (k : Int)) 2)) - (iI (sL (svn nb W B (PI nw nb W B i)) (zw Z (k : Int)))))]) (g1 := (HW sc ar tx oc rl ou tl, q)) rfl ?_
      refine RQ.ialdv (z := (k : Int)) (v := (zv Z (k : Int))) rfl rfl rfl (by omega) (by decide) (hZ.2.2.2 (k : Int) (by omega) (by omega)).2.2 ?_
      refine RQ.if2 (a := (W (zw Z (k : Int)) 2 - (sL (svn nb W B (PI nw nb W B i)) (zw Z (k : Int))))) (b := (zv Z (k : Int))) rfl rfl (by simp only [iI_add, iI_sub, iI_mul, iI_neg]) rfl (by omega) (by omega) (fun (h4 : W (zw Z (k : Int)) 2 - (sL (svn nb W B (PI nw nb W B i)) (zw Z (k : Int))) = zv Z (k : Int)) => ?_) (fun (h4 : ¬ W (zw Z (k : Int)) 2 - (sL (svn nb W B (PI nw nb W B i)) (zw Z (k : Int))) = zv Z (k : Int)) => ?_)
      · skip
        refine RQ.seg 2 (pc' := 2) (L' := [some (.ref 80), some (.int ((iI (k : Int)) + (iI 1))), some (.int ((iI (W (zw Z (k : Int)) 2)) - (iI (sL (svn nb W B (PI nw nb W B i)) (zw Z (k : Int)))))), e3]) (st' := []) (g1 := (HW sc ar tx oc rl ou tl, q)) rfl ?_
        refine RQ.to (L' := [some (.ref 80), some (.int (iI ((k : Int) + 1))), some (.int (iI (W (zw Z (k : Int)) 2 - (sL (svn nb W B (PI nw nb W B i)) (zw Z (k : Int)))))), e3]) (st' := []) (by simp only [iI_add, iI_sub, iI_mul, iI_neg]) rfl ?_
        exact m_so_l hF hM hJ hPf hZ hA hk m (k + 1) _ _ (by omega) (by rw [son, hs, Bool.true_and]; exact decide_eq_true (by omega))
      · skip
        refine RQ.seg 1 (pc' := 117) (L' := [some (.ref 80), some (.int (iI (k : Int))), some (.int ((iI (W (zw Z (k : Int)) 2)) - (iI (sL (svn nb W B (PI nw nb W B i)) (zw Z (k : Int)))))), e3]) (st' := [.int (iI 0)]) (g1 := (HW sc ar tx oc rl ou tl, q)) rfl ?_
        refine RQ.to (L' := [some (.ref 80), some (.int (iI (k : Int))), some (.int (iI (W (zw Z (k : Int)) 2 - (sL (svn nb W B (PI nw nb W B i)) (zw Z (k : Int)))))), e3]) (st' := [.int (iI 0)]) (by simp only [iI_add, iI_sub, iI_mul, iI_neg]) rfl ?_
        refine RQ.ret rfl rfl ?_
        rw [sof_0 (k := k) (by omega) (by omega)] at hk
        exact hk
theorem m_isSo {K : PK} {d : Nat} {sc : Nat → Int} {ar : Nat → Int → Int} {tx oc : Nat} {rl : Nat → Option Nat} {ou : Nat → Int64} {tl : List PO} {q : Nat × Nat} {i : Int} {nw nb : Int} {W B : Int → Int → Int} (hF : FrOK nw nb W B) (hM : FrM (sc 8024) (sc 8025) (ar 85) (ar 86) nw nb W B) {law : Int → Int} (hJ : JdgP nw nb W B (PI nw nb W B i) law sc ar) (hPf : ∀ c, 0 ≤ c → c < nb → ar 96 c = PI nw nb W B i c) {Z : SS} (hZ : SeO Z (sc 8056) (ar 87) (ar 91) (ar 111) (ar 112) (ar 113)) (hA : AsOK nw Z) : CallR K (d + 3) 220 [.ref 80] (HW sc ar tx oc rl ou tl, q) (some (.int (iI (sof nw nb W B Z i)))) (HW sc ar tx oc rl ou tl, q) := by
  apply CQ.x
  have hn := hF.1
  have hm1 := hM.1
  have hm2 := hM.2.1
  have hA1 := hA.1
  refine CQ.of (own := 11) (n := 4) (ini := false) (rt := (some .boolean)) (cd := cd220) (by decide +kernel) rfl (by decide +kernel) rfl (Nat.le_of_ble_eq_true rfl) ?_
  refine RQ.seg 2 (pc' := 2) (L' := [some (.ref 80), some (.int (iI 0)), none, none]) (st' := []) (g1 := (HW sc ar tx oc rl ou tl, q)) rfl ?_
  exact m_so_l hF hM hJ hPf hZ hA ⟨rfl, rfl⟩ (zN Z).toNat 0 _ _ (by omega) rfl
theorem m_ex_l {K : PK} {d : Nat} {tx oc : Nat} {rl : Nat → Option Nat} {ou : Nat → Int64} {tl : List PO} {q : Nat × Nat} {Q : Option Value → PG → Prop} {i : Int} {nw nb : Int} {W B : Int → Int → Int} (hF : FrOK nw nb W B) {Z : SS} (hA : AsOK nw Z) {law : Int → Int} (hL : LwOK law) (ri : -2147483648 ≤ i ∧ i < 2147483648) : ∀ (m : Nat) (k s : Int) (sc : Nat → Int) (ar : Nat → Int → Int) (hm : 0 ≤ k ∧ k + m = t3 (mny nw nb W B)) (hs : 0 ≤ s ∧ s ≤ k) (hM : FrM (sc 8024) (sc 8025) (ar 85) (ar 86) nw nb W B) (hP : PMx nw nb W B (ar 94) (ar 95)) (hlw : ∀ j, 0 ≤ j → j < 4 → ar 87 j = law j) (hD : LyR nw nb W B law sc ar) (hZ : SeO Z (sc 8056) (ar 87) (ar 91) (ar 111) (ar 112) (ar 113)) (hk : ∀ sc' ar', Same scF sc sc' → Same scA ar ar' → Q (some (.int (iI (pik (sof nw nb W B Z) (fun k => rnm (PI nw nb W B k) nb.toNat) i m k s)))) (HW sc' ar' tx oc rl ou tl, q)), RQ K (d + 4) 11 false (some .int) cd221 27 [some (.ref 80), some (.int (iI i)), some (.int (iI s)), some (.int (iI k))] [] (HW sc ar tx oc rl ou tl, q) Q
  | 0, k, s, sc, ar, hm, hs, hM, hP, hlw, hD, hZ, hk => by
    have hn := hF.1
    have hm1 := hM.1
    have hm2 := hM.2.1
    have hB := mny_b (nw := nw) (nb := nb) (W := W) (B := B) hF.1.2.1
    have ht3 := t3_r hB
    have hrm : sc 8052 = t3 (mny nw nb W B) := hD.1
    refine RQ.seg 3 (pc' := 32) (L' := [some (.ref 80), some (.int (iI i)), some (.int (iI s)), some (.int (iI k))]) (st' := [.int (iI (sc 8052)), .int (iI k)]) (g1 := (HW sc ar tx oc rl ou tl, q)) rfl ?_
    refine RQ.to (L' := [some (.ref 80), some (.int (iI i)), some (.int (iI s)), some (.int (iI k))]) (st' := [.int (iI (t3 (mny nw nb W B))), .int (iI k)]) rfl (by rw [show sc 8052 = t3 (mny nw nb W B) from hrm]) ?_
    refine RQ.if2 (a := k) (b := (t3 (mny nw nb W B))) rfl rfl rfl rfl (by omega) (by omega) (fun _ => ?_) (fun (q : ¬ t3 (mny nw nb W B) ≤ k) => absurd (show t3 (mny nw nb W B) ≤ k from by omega) q)
    refine RQ.seg 2 (pc' := 76) (L' := [some (.ref 80), some (.int (iI i)), some (.int (iI s)), some (.int (iI k))]) (st' := [.int (iI (-1)), .int (iI i)]) (g1 := (HW sc ar tx oc rl ou tl, q)) rfl ?_
    refine RQ.if2 (a := i) (b := (-1)) rfl rfl rfl rfl (by omega) (by omega) (fun (h2 : i ≠ (-1)) => ?_) (fun (h2 : ¬ i ≠ (-1)) => ?_)
    · skip
      refine RQ.seg 1 (pc' := 84) (L' := [some (.ref 80), some (.int (iI i)), some (.int (iI s)), some (.int (iI k))]) (st' := [.int (iI (-1))]) (g1 := (HW sc ar tx oc rl ou tl, q)) rfl ?_
      refine RQ.ret rfl rfl ?_
      rw [pik] at hk
      first | (rw [if_pos (by omega)] at hk; exact hk sc ar Same.rf Same.rf) | (rw [if_neg (by omega)] at hk; exact hk sc ar Same.rf Same.rf)
    · skip
      refine RQ.seg 2 (pc' := 84) (L' := [some (.ref 80), some (.int (iI i)), some (.int (iI s)), some (.int (iI k))]) (st' := [.int (iI s)]) (g1 := (HW sc ar tx oc rl ou tl, q)) rfl ?_
      refine RQ.ret rfl rfl ?_
      rw [pik] at hk
      first | (rw [if_pos (by omega)] at hk; exact hk sc ar Same.rf Same.rf) | (rw [if_neg (by omega)] at hk; exact hk sc ar Same.rf Same.rf)
  | m + 1, k, s, sc, ar, hm, hs, hM, hP, hlw, hD, hZ, hk => by
    have hn := hF.1
    have hm1 := hM.1
    have hm2 := hM.2.1
    have hB := mny_b (nw := nw) (nb := nb) (W := W) (B := B) hF.1.2.1
    have ht3 := t3_r hB
    have hrm : sc 8052 = t3 (mny nw nb W B) := hD.1
    refine RQ.seg 3 (pc' := 32) (L' := [some (.ref 80), some (.int (iI i)), some (.int (iI s)), some (.int (iI k))]) (st' := [.int (iI (sc 8052)), .int (iI k)]) (g1 := (HW sc ar tx oc rl ou tl, q)) rfl ?_
    refine RQ.to (L' := [some (.ref 80), some (.int (iI i)), some (.int (iI s)), some (.int (iI k))]) (st' := [.int (iI (t3 (mny nw nb W B))), .int (iI k)]) rfl (by rw [show sc 8052 = t3 (mny nw nb W B) from hrm]) ?_
    refine RQ.if2 (a := k) (b := (t3 (mny nw nb W B))) rfl rfl rfl rfl (by omega) (by omega) (fun (q : t3 (mny nw nb W B) ≤ k) => absurd q (show ¬ t3 (mny nw nb W B) ≤ k from by omega)) (fun _ => ?_)
    refine RQ.seg 2 (pc' := 37) (L' := [some (.ref 80), some (.int (iI i)), some (.int (iI s)), some (.int (iI k))]) (st' := [.int (iI k), .ref 80]) (g1 := (HW sc ar tx oc rl ou tl, q)) rfl ?_
    refine RQ.callQ rfl rfl ((m_takeRow (d := 0) (sc := sc) (ar := ar) (i := k) hF hM hP (by omega)).up (by omega)) (fun rv g1 hc => ?_)
    obtain ⟨rfl, pf, rfl, hpf⟩ := hc
    refine RQ.seg 1 (pc' := 41) (L' := [some (.ref 80), some (.int (iI i)), some (.int (iI s)), some (.int (iI k))]) (st' := [.ref 80]) (g1 := (HW sc (usc ar 96 pf) tx oc rl ou tl, q)) rfl ?_
    refine RQ.callQ rfl rfl ((m_judgeA (d := 0) (sc := sc) (ar := usc ar 96 pf) (P := PI nw nb W B k) hF hM hpf (PI_ok hF k) hlw hL).up (by omega)) (fun rv g1 hc => ?_)
    obtain ⟨rfl, sc1, ar1, rfl, hJ, hs1, ha1⟩ := hc
    have hs2 : Same scF sc sc1 := hs1.w rfl
    have ha2 : Same scA ar ar1 := Same.tr (Same.us rfl Same.rf) (ha1.w rfl)
    have hM1 := hM.sm hs2 ha2
    have hP1 : PMx nw nb W B (ar1 94) (ar1 95) := by rw [ha2 94 rfl, ha2 95 rfl]; exact hP
    have hlw1 : ∀ j, 0 ≤ j → j < 4 → ar1 87 j = law j := fun j h0 h1 => (congrFun (ha2 87 rfl) j).trans (hlw j h0 h1)
    have hD1 : LyR nw nb W B law sc1 ar1 := hD.sm (hs1 8052 rfl) (ha1 107 rfl) (ha1 108 rfl) (ha1 109 rfl) (ha1 110 rfl)
    have hZ1 : SeO Z (sc1 8056) (ar1 87) (ar1 91) (ar1 111) (ar1 112) (ar1 113) := by rw [hs2 8056 rfl, ha2 87 rfl, ha2 91 rfl, ha2 111 rfl, ha2 112 rfl, ha2 113 rfl]; exact hZ
    have hpf1 : ∀ c, 0 ≤ c → c < nb → ar1 96 c = PI nw nb W B k c := fun c c0 c1 => (congrFun (ha1 96 rfl) c).trans (hpf c c0 c1)
    refine RQ.seg 1 (pc' := 45) (L' := [some (.ref 80), some (.int (iI i)), some (.int (iI s)), some (.int (iI k))]) (st' := [.ref 80]) (g1 := (HW sc1 ar1 tx oc rl ou tl, q)) rfl ?_
    have hso := sof_r (nw := nw) (nb := nb) (W := W) (B := B) Z k
    refine RQ.call rfl rfl (CallR.up (d := 3) (m_isSo (d := 0) (i := k) hF hM1 hJ hpf1 hZ1 hA) (by omega)) ?_
    rcases (show sof nw nb W B Z k = 1 ∨ sof nw nb W B Z k = 0 by omega) with h5 | h5
    · skip
      rw [h5]
      rw [pik, if_pos h5] at hk
      refine RQ.seg 3 (pc' := 56) (L' := [some (.ref 80), some (.int (iI i)), some (.int (iI s)), some (.int (iI k))]) (st' := [.int (iI i), .int (iI s)]) (g1 := (HW sc1 ar1 tx oc rl ou tl, q)) rfl ?_
      refine RQ.if2 (a := s) (b := i) rfl rfl rfl rfl (by omega) (by omega) (fun (h2 : s ≠ i) => ?_) (fun (h2 : ¬ s ≠ i) => ?_)
      · skip
        refine RQ.seg 3 (pc' := 27) (L' := [some (.ref 80), some (.int (iI i)), some (.int ((iI s) + (iI 1))), some (.int ((iI k) + (iI 1)))]) (st' := []) (g1 := (HW sc1 ar1 tx oc rl ou tl, q)) rfl ?_
        refine RQ.to (L' := [some (.ref 80), some (.int (iI i)), some (.int (iI (s + 1))), some (.int (iI (k + 1)))]) (st' := []) (by simp only [iI_add, iI_sub, iI_mul, iI_neg]) rfl ?_
        rw [if_neg (by omega)] at hk
        exact m_ex_l hF hA hL ri m (k + 1) (s + 1) sc1 ar1 (by omega) (by omega) hM1 hP1 hlw1 hD1 hZ1 (fun sc' ar' a1 a2 => hk sc' ar' (hs2.tr a1) (ha2.tr a2))
      · skip
        refine RQ.seg 2 (pc' := 61) (L' := [some (.ref 80), some (.int (iI i)), some (.int (iI s)), some (.int (iI k))]) (st' := [.int (iI k), .ref 80]) (g1 := (HW sc1 ar1 tx oc rl ou tl, q)) rfl ?_
        rw [if_pos (by omega)] at hk
        refine RQ.callQ rfl rfl (m_numberOf (i := k) hF hM1 hP1 (by omega)) (fun rv g1 hc => ?_)
        obtain ⟨rfl, pf2, rfl⟩ := hc
        refine RQ.ret rfl rfl ?_
        exact hk _ _ hs2 (Same.tr ha2 (Same.us rfl Same.rf))
    · skip
      rw [h5]
      rw [pik, if_neg (by omega)] at hk
      refine RQ.seg 4 (pc' := 27) (L' := [some (.ref 80), some (.int (iI i)), some (.int (iI s)), some (.int ((iI k) + (iI 1)))]) (st' := []) (g1 := (HW sc1 ar1 tx oc rl ou tl, q)) rfl ?_
      refine RQ.to (L' := [some (.ref 80), some (.int (iI i)), some (.int (iI s)), some (.int (iI (k + 1)))]) (st' := []) (by simp only [iI_add, iI_sub, iI_mul, iI_neg]) rfl ?_
      exact m_ex_l hF hA hL ri m (k + 1) s sc1 ar1 (by omega) (by omega) hM1 hP1 hlw1 hD1 hZ1 (fun sc' ar' a1 a2 => hk sc' ar' (hs2.tr a1) (ha2.tr a2))
theorem m_explain {K : PK} {d : Nat} {sc : Nat → Int} {ar : Nat → Int → Int} {tx oc : Nat} {rl : Nat → Option Nat} {ou : Nat → Int64} {tl : List PO} {q : Nat × Nat} {i : Int} {nw nb : Int} {W B : Int → Int → Int} (hF : FrOK nw nb W B) (hM : FrM (sc 8024) (sc 8025) (ar 85) (ar 86) nw nb W B) (hP : PMx nw nb W B (ar 94) (ar 95)) {law : Int → Int} (hlw : ∀ j, 0 ≤ j → j < 4 → ar 87 j = law j) (hL : LwOK law) {Z : SS} (hA : AsOK nw Z) (hZ : SeO Z (sc 8056) (ar 87) (ar 91) (ar 111) (ar 112) (ar 113)) (ri : -2147483648 ≤ i ∧ i < 2147483648) : CQ K (d + 6) 221 [.ref 80, .int (iI i)] (HW sc ar tx oc rl ou tl, q) (fun r g' => r = some (.int (iI (sExplain nw nb W B Z i))) ∧ ∃ sc' ar', g' = (HW sc' ar' tx oc rl ou tl, q) ∧ Same scF sc sc' ∧ Same scA ar ar') := by
  have hn := hF.1
  have hm1 := hM.1
  have hm2 := hM.2.1
  have hB := mny_b (nw := nw) (nb := nb) (W := W) (B := B) hF.1.2.1
  have ht3 := t3_r hB
  refine CQ.of (own := 11) (n := 4) (ini := false) (rt := (some .int)) (cd := cd221) (by decide +kernel) rfl (by decide +kernel) rfl (Nat.le_of_ble_eq_true rfl) ?_
  refine RQ.seg 5 (pc' := 9) (L' := [some (.ref 80), some (.int (iI i)), none, none]) (st' := [.int (iI (sc 8025))]) (g1 := (HW (usc sc 8000 0) ar tx oc rl ou tl, q)) rfl ?_
  refine RQ.if1 (a := (sc 8025)) rfl rfl rfl (by omega) (fun (h1 : sc 8025 = 0) => ?_) (fun (h1 : ¬ sc 8025 = 0) => ?_)
  · skip
    refine RQ.seg 1 (pc' := 18) (L' := [some (.ref 80), some (.int (iI i)), none, none]) (st' := [.int (iI (-1))]) (g1 := (HW (usc sc 8000 0) ar tx oc rl ou tl, q)) rfl ?_
    refine RQ.ret rfl rfl ?_
    refine ⟨?_, _, _, rfl, (by repeat (first | exact Same.rf | refine Same.us rfl ?_)), (by repeat (first | exact Same.rf | refine Same.us rfl ?_))⟩
    congr 3; unfold sExplain; first | (rw [if_neg (by omega)]; done) | (rw [if_pos (by omega), pik_lo (by omega) _ _ _ (by omega)])
  · skip
    refine RQ.seg 2 (pc' := 14) (L' := [some (.ref 80), some (.int (iI i)), none, none]) (st' := [.int (iI (-1)), .int (iI i)]) (g1 := (HW (usc sc 8000 0) ar tx oc rl ou tl, q)) rfl ?_
    refine RQ.if2 (a := i) (b := (-1)) rfl rfl rfl rfl (by omega) (by omega) (fun (h2 : (-1) ≤ i) => ?_) (fun (h2 : ¬ (-1) ≤ i) => ?_)
    · skip
      refine RQ.seg 1 (pc' := 20) (L' := [some (.ref 80), some (.int (iI i)), none, none]) (st' := [.ref 80]) (g1 := (HW (usc sc 8000 0) ar tx oc rl ou tl, q)) rfl ?_
      refine RQ.callQ rfl rfl ((m_layRows (d := 0) (sc := usc sc 8000 0) (ar := ar) hF hM hP hlw hL).up (by omega)) (fun rv g1 hc => ?_)
      obtain ⟨rfl, sc1, ar1, rfl, hs1, ha1, hD⟩ := hc
      have hM1 := hM.sm hs1 ha1
      have hP1 : PMx nw nb W B (ar1 94) (ar1 95) := by rw [ha1 94 rfl, ha1 95 rfl]; exact hP
      have hrm : sc1 8052 = t3 (mny nw nb W B) := hD.1
      refine RQ.seg 4 (pc' := 27) (L' := [some (.ref 80), some (.int (iI i)), some (.int (iI 0)), some (.int (iI 0))]) (st' := []) (g1 := (HW sc1 ar1 tx oc rl ou tl, q)) rfl ?_
      have hZ1 : SeO Z (sc1 8056) (ar1 87) (ar1 91) (ar1 111) (ar1 112) (ar1 113) := by rw [hs1 8056 rfl, ha1 87 rfl, ha1 91 rfl, ha1 111 rfl, ha1 112 rfl, ha1 113 rfl]; exact hZ
      have hlw1 : ∀ j, 0 ≤ j → j < 4 → ar1 87 j = law j := fun j h0 h1 => (congrFun (ha1 87 rfl) j).trans (hlw j h0 h1)
      refine m_ex_l hF hA hL ri (t3 (mny nw nb W B)).toNat 0 0 sc1 ar1 (by omega) (by omega) hM1 hP1 hlw1 hD hZ1 (fun sc' ar' a1 a2 => ⟨?_, _, _, rfl, Same.tr (Same.tr (Same.us rfl Same.rf) hs1) a1, ha1.tr a2⟩)
      congr 3; unfold sExplain; rw [if_pos (by omega)]
    · skip
      refine RQ.seg 1 (pc' := 18) (L' := [some (.ref 80), some (.int (iI i)), none, none]) (st' := [.int (iI (-1))]) (g1 := (HW (usc sc 8000 0) ar tx oc rl ou tl, q)) rfl ?_
      refine RQ.ret rfl rfl ?_
      refine ⟨?_, _, _, rfl, (by repeat (first | exact Same.rf | refine Same.us rfl ?_)), (by repeat (first | exact Same.rf | refine Same.us rfl ?_))⟩
      congr 3; unfold sExplain; first | (rw [if_neg (by omega)]; done) | (rw [if_pos (by omega), pik_lo (by omega) _ _ _ (by omega)])
theorem m_kn_l {K : PK} {d : Nat} {tx oc : Nat} {rl : Nat → Option Nat} {ou : Nat → Int64} {tl : List PO} {q : Nat × Nat} {Q : Option Value → PG → Prop} {nw nb : Int} {W B : Int → Int → Int} (hF : FrOK nw nb W B) {Z : SS} (hA : AsOK nw Z) {law : Int → Int} (hL : LwOK law) : ∀ (m k : Nat) (sc : Nat → Int) (ar : Nat → Int → Int) (hm : (k : Int) + m = t3 (mny nw nb W B)) (hM : FrM (sc 8024) (sc 8025) (ar 85) (ar 86) nw nb W B) (hP : PMx nw nb W B (ar 94) (ar 95)) (hlw : ∀ j, 0 ≤ j → j < 4 → ar 87 j = law j) (hD : LyR nw nb W B law sc ar) (hZ : SeO Z (sc 8056) (ar 87) (ar 91) (ar 111) (ar 112) (ar 113)) (hk : ∀ sc' ar', Same scF sc sc' → Same scA ar ar' → Q (some (.int (iI (knv nw nb W B Z)))) (HW sc' ar' tx oc rl ou tl, q)), RQ K (d + 4) 11 false (some .int) cd222 31 [some (.ref 80), some (.int (iI ((kbn nw nb W B Z k).1))), some (.int (iI ((kbn nw nb W B Z k).2))), some (.int (iI (k : Int)))] [] (HW sc ar tx oc rl ou tl, q) Q
  | 0, k, sc, ar, hm, hM, hP, hlw, hD, hZ, hk => by
    have hn := hF.1
    have hm1 := hM.1
    have hm2 := hM.2.1
    have hB := mny_b (nw := nw) (nb := nb) (W := W) (B := B) hF.1.2.1
    have ht3 := t3_r hB
    have hrm : sc 8052 = t3 (mny nw nb W B) := hD.1
    have hkb := kbn_r hF (Z := Z) k
    have hx8 := xcn_8 (nw := nw) (nb := nb) (W := W) (B := B) (i := (k : Int)) (n := nb.toNat) (by omega)
    refine RQ.seg 3 (pc' := 36) (L' := [some (.ref 80), some (.int (iI ((kbn nw nb W B Z k).1))), some (.int (iI ((kbn nw nb W B Z k).2))), some (.int (iI (k : Int)))]) (st' := [.int (iI (sc 8052)), .int (iI (k : Int))]) (g1 := (HW sc ar tx oc rl ou tl, q)) rfl ?_
    refine RQ.to (L' := [some (.ref 80), some (.int (iI ((kbn nw nb W B Z k).1))), some (.int (iI ((kbn nw nb W B Z k).2))), some (.int (iI (k : Int)))]) (st' := [.int (iI (t3 (mny nw nb W B))), .int (iI (k : Int))]) rfl (by rw [show sc 8052 = t3 (mny nw nb W B) from hrm]) ?_
    refine RQ.if2 (a := (k : Int)) (b := (t3 (mny nw nb W B))) rfl rfl rfl rfl (by omega) (by omega) (fun _ => ?_) (fun (q : ¬ t3 (mny nw nb W B) ≤ (k : Int)) => absurd (show t3 (mny nw nb W B) ≤ (k : Int) from by omega) q)
    refine RQ.seg 1 (pc' := 76) (L' := [some (.ref 80), some (.int (iI ((kbn nw nb W B Z k).1))), some (.int (iI ((kbn nw nb W B Z k).2))), some (.int (iI (k : Int)))]) (st' := [.int (iI ((kbn nw nb W B Z k).2))]) (g1 := (HW sc ar tx oc rl ou tl, q)) rfl ?_
    refine RQ.if1 (a := ((kbn nw nb W B Z k).2)) rfl rfl rfl (by omega) (fun (h2 : (kbn nw nb W B Z k).2 = 0) => ?_) (fun (h2 : ¬ (kbn nw nb W B Z k).2 = 0) => ?_)
    · skip
      refine RQ.seg 1 (pc' := 84) (L' := [some (.ref 80), some (.int (iI ((kbn nw nb W B Z k).1))), some (.int (iI ((kbn nw nb W B Z k).2))), some (.int (iI (k : Int)))]) (st' := [.int (iI 0)]) (g1 := (HW sc ar tx oc rl ou tl, q)) rfl ?_
      refine RQ.ret rfl rfl ?_
      unfold knv at hk; rw [show (t3 (mny nw nb W B)).toNat = k by omega] at hk
      first | (rw [if_pos (by omega)] at hk; exact hk sc ar Same.rf Same.rf) | (rw [if_neg (by omega)] at hk; exact hk sc ar Same.rf Same.rf)
    · skip
      refine RQ.seg 2 (pc' := 84) (L' := [some (.ref 80), some (.int (iI ((kbn nw nb W B Z k).1))), some (.int (iI ((kbn nw nb W B Z k).2))), some (.int (iI (k : Int)))]) (st' := [.int (iI ((kbn nw nb W B Z k).1))]) (g1 := (HW sc ar tx oc rl ou tl, q)) rfl ?_
      refine RQ.ret rfl rfl ?_
      unfold knv at hk; rw [show (t3 (mny nw nb W B)).toNat = k by omega] at hk
      first | (rw [if_pos (by omega)] at hk; exact hk sc ar Same.rf Same.rf) | (rw [if_neg (by omega)] at hk; exact hk sc ar Same.rf Same.rf)
  | m + 1, k, sc, ar, hm, hM, hP, hlw, hD, hZ, hk => by
    have hn := hF.1
    have hm1 := hM.1
    have hm2 := hM.2.1
    have hB := mny_b (nw := nw) (nb := nb) (W := W) (B := B) hF.1.2.1
    have ht3 := t3_r hB
    have hrm : sc 8052 = t3 (mny nw nb W B) := hD.1
    have hkb := kbn_r hF (Z := Z) k
    have hx8 := xcn_8 (nw := nw) (nb := nb) (W := W) (B := B) (i := (k : Int)) (n := nb.toNat) (by omega)
    refine RQ.seg 3 (pc' := 36) (L' := [some (.ref 80), some (.int (iI ((kbn nw nb W B Z k).1))), some (.int (iI ((kbn nw nb W B Z k).2))), some (.int (iI (k : Int)))]) (st' := [.int (iI (sc 8052)), .int (iI (k : Int))]) (g1 := (HW sc ar tx oc rl ou tl, q)) rfl ?_
    refine RQ.to (L' := [some (.ref 80), some (.int (iI ((kbn nw nb W B Z k).1))), some (.int (iI ((kbn nw nb W B Z k).2))), some (.int (iI (k : Int)))]) (st' := [.int (iI (t3 (mny nw nb W B))), .int (iI (k : Int))]) rfl (by rw [show sc 8052 = t3 (mny nw nb W B) from hrm]) ?_
    refine RQ.if2 (a := (k : Int)) (b := (t3 (mny nw nb W B))) rfl rfl rfl rfl (by omega) (by omega) (fun (q : t3 (mny nw nb W B) ≤ (k : Int)) => absurd q (show ¬ t3 (mny nw nb W B) ≤ (k : Int) from by omega)) (fun _ => ?_)
    refine RQ.seg 2 (pc' := 41) (L' := [some (.ref 80), some (.int (iI ((kbn nw nb W B Z k).1))), some (.int (iI ((kbn nw nb W B Z k).2))), some (.int (iI (k : Int)))]) (st' := [.int (iI (k : Int)), .ref 80]) (g1 := (HW sc ar tx oc rl ou tl, q)) rfl ?_
    refine RQ.callQ rfl rfl ((m_takeRow (d := 0) (sc := sc) (ar := ar) (i := (k : Int)) hF hM hP (by omega)).up (by omega)) (fun rv g1 hc => ?_)
    obtain ⟨rfl, pf, rfl, hpf⟩ := hc
    refine RQ.seg 1 (pc' := 45) (L' := [some (.ref 80), some (.int (iI ((kbn nw nb W B Z k).1))), some (.int (iI ((kbn nw nb W B Z k).2))), some (.int (iI (k : Int)))]) (st' := [.ref 80]) (g1 := (HW sc (usc ar 96 pf) tx oc rl ou tl, q)) rfl ?_
    refine RQ.callQ rfl rfl ((m_judgeA (d := 0) (sc := sc) (ar := usc ar 96 pf) (P := PI nw nb W B (k : Int)) hF hM hpf (PI_ok hF (k : Int)) hlw hL).up (by omega)) (fun rv g1 hc => ?_)
    obtain ⟨rfl, sc1, ar1, rfl, hJ, hs1, ha1⟩ := hc
    have hs2 : Same scF sc sc1 := hs1.w rfl
    have ha2 : Same scA ar ar1 := Same.tr (Same.us rfl Same.rf) (ha1.w rfl)
    have hM1 := hM.sm hs2 ha2
    have hP1 : PMx nw nb W B (ar1 94) (ar1 95) := by rw [ha2 94 rfl, ha2 95 rfl]; exact hP
    have hlw1 : ∀ j, 0 ≤ j → j < 4 → ar1 87 j = law j := fun j h0 h1 => (congrFun (ha2 87 rfl) j).trans (hlw j h0 h1)
    have hD1 : LyR nw nb W B law sc1 ar1 := hD.sm (hs1 8052 rfl) (ha1 107 rfl) (ha1 108 rfl) (ha1 109 rfl) (ha1 110 rfl)
    have hZ1 : SeO Z (sc1 8056) (ar1 87) (ar1 91) (ar1 111) (ar1 112) (ar1 113) := by rw [hs2 8056 rfl, ha2 87 rfl, ha2 91 rfl, ha2 111 rfl, ha2 112 rfl, ha2 113 rfl]; exact hZ
    have hpf1 : ∀ c, 0 ≤ c → c < nb → ar1 96 c = PI nw nb W B (k : Int) c := fun c c0 c1 => (congrFun (ha1 96 rfl) c).trans (hpf c c0 c1)
    refine RQ.seg 1 (pc' := 49) (L' := [some (.ref 80), some (.int (iI ((kbn nw nb W B Z k).1))), some (.int (iI ((kbn nw nb W B Z k).2))), some (.int (iI (k : Int)))]) (st' := [.ref 80]) (g1 := (HW sc1 ar1 tx oc rl ou tl, q)) rfl ?_
    have hso := sof_r (nw := nw) (nb := nb) (W := W) (B := B) Z (k : Int)
    refine RQ.call rfl rfl (CallR.up (d := 3) (m_isSo (d := 0) (i := (k : Int)) hF hM1 hJ hpf1 hZ1 hA) (by omega)) ?_
    rcases (show sof nw nb W B Z (k : Int) = 1 ∨ sof nw nb W B Z (k : Int) = 0 by omega) with h5 | h5
    · skip
      rw [h5]
      refine RQ.seg 5 (pc' := 64) (L' := [some (.ref 80), some (.int (iI ((kbn nw nb W B Z k).1))), some (.int (iI ((kbn nw nb W B Z k).2))), some (.int (iI (k : Int)))]) (st' := [.int (iI (k : Int)), .ref 110, .int (iI ((kbn nw nb W B Z k).1))]) (g1 := (HW sc1 ar1 tx oc rl ou tl, q)) rfl ?_
      refine RQ.ialdv (z := (k : Int)) (v := (xcn nw nb W B (k : Int) nb.toNat)) rfl rfl rfl (by omega) (by decide) (hD1.2 (k : Int) (by omega) (by omega)).2.2.1 ?_
      refine RQ.iandn (a := (kbn nw nb W B Z k).1) (b := xcn nw nb W B (k : Int) nb.toNat) rfl rfl rfl (by omega) (by omega) ?_
      refine RQ.seg 5 (pc' := 31) (L' := [some (.ref 80), some (.int (iI (andz (kbn nw nb W B Z k).1 (xcn nw nb W B (k : Int) nb.toNat)))), some (.int (iI 1)), some (.int ((iI (k : Int)) + (iI 1)))]) (st' := []) (g1 := (HW sc1 ar1 tx oc rl ou tl, q)) rfl ?_
      refine RQ.to (L' := [some (.ref 80), some (.int (iI (andz (kbn nw nb W B Z k).1 (xcn nw nb W B (k : Int) nb.toNat)))), some (.int (iI 1)), some (.int (iI ((k : Int) + 1)))]) (st' := []) (by simp only [iI_add, iI_sub, iI_mul, iI_neg]) rfl ?_
      have e9 : kbn nw nb W B Z (k + 1) = (andz (kbn nw nb W B Z k).1 (xcn nw nb W B (k : Int) nb.toNat), 1) := by rw [kbn]; first | rw [if_pos (by omega)] | rw [if_neg (by omega)]
      have e10 := m_kn_l (K := K) (d := d) (tx := tx) (oc := oc) (rl := rl) (ou := ou) (tl := tl) (q := q) (Q := Q) hF hA hL m (k + 1) sc1 ar1 (by omega) hM1 hP1 hlw1 hD1 hZ1 (fun sc' ar' a1 a2 => hk sc' ar' (hs2.tr a1) (ha2.tr a2))
      rw [e9] at e10
      exact e10
    · skip
      rw [h5]
      refine RQ.seg 4 (pc' := 31) (L' := [some (.ref 80), some (.int (iI ((kbn nw nb W B Z k).1))), some (.int (iI ((kbn nw nb W B Z k).2))), some (.int ((iI (k : Int)) + (iI 1)))]) (st' := []) (g1 := (HW sc1 ar1 tx oc rl ou tl, q)) rfl ?_
      refine RQ.to (L' := [some (.ref 80), some (.int (iI ((kbn nw nb W B Z k).1))), some (.int (iI ((kbn nw nb W B Z k).2))), some (.int (iI ((k : Int) + 1)))]) (st' := []) (by simp only [iI_add, iI_sub, iI_mul, iI_neg]) rfl ?_
      have e9 : kbn nw nb W B Z (k + 1) = ((kbn nw nb W B Z k).1, (kbn nw nb W B Z k).2) := by rw [kbn]; first | rw [if_pos (by omega)] | rw [if_neg (by omega)]
      have e10 := m_kn_l (K := K) (d := d) (tx := tx) (oc := oc) (rl := rl) (ou := ou) (tl := tl) (q := q) (Q := Q) hF hA hL m (k + 1) sc1 ar1 (by omega) hM1 hP1 hlw1 hD1 hZ1 (fun sc' ar' a1 a2 => hk sc' ar' (hs2.tr a1) (ha2.tr a2))
      rw [e9] at e10
      exact e10
theorem m_knocked {K : PK} {d : Nat} {sc : Nat → Int} {ar : Nat → Int → Int} {tx oc : Nat} {rl : Nat → Option Nat} {ou : Nat → Int64} {tl : List PO} {q : Nat × Nat} {nw nb : Int} {W B : Int → Int → Int} (hF : FrOK nw nb W B) (hM : FrM (sc 8024) (sc 8025) (ar 85) (ar 86) nw nb W B) (hP : PMx nw nb W B (ar 94) (ar 95)) {law : Int → Int} (hlw : ∀ j, 0 ≤ j → j < 4 → ar 87 j = law j) (hL : LwOK law) {Z : SS} (hA : AsOK nw Z) (hZ : SeO Z (sc 8056) (ar 87) (ar 91) (ar 111) (ar 112) (ar 113)) : CQ K (d + 6) 222 [.ref 80] (HW sc ar tx oc rl ou tl, q) (fun r g' => r = some (.int (iI (sKnocked nw nb W B Z))) ∧ ∃ sc' ar', g' = (HW sc' ar' tx oc rl ou tl, q) ∧ Same scF sc sc' ∧ Same scA ar ar') := by
  have hn := hF.1
  have hm1 := hM.1
  have hm2 := hM.2.1
  have hB := mny_b (nw := nw) (nb := nb) (W := W) (B := B) hF.1.2.1
  have ht3 := t3_r hB
  refine CQ.of (own := 11) (n := 4) (ini := false) (rt := (some .int)) (cd := cd222) (by decide +kernel) rfl (by decide +kernel) rfl (Nat.le_of_ble_eq_true rfl) ?_
  refine RQ.seg 5 (pc' := 9) (L' := [some (.ref 80), none, none, none]) (st' := [.int (iI (sc 8025))]) (g1 := (HW (usc sc 8000 0) ar tx oc rl ou tl, q)) rfl ?_
  refine RQ.if1 (a := (sc 8025)) rfl rfl rfl (by omega) (fun (h1 : sc 8025 ≠ 0) => ?_) (fun (h1 : ¬ sc 8025 ≠ 0) => ?_)
  · skip
    refine RQ.seg 1 (pc' := 15) (L' := [some (.ref 80), none, none, none]) (st' := [.ref 80]) (g1 := (HW (usc sc 8000 0) ar tx oc rl ou tl, q)) rfl ?_
    refine RQ.callQ rfl rfl ((m_layRows (d := 0) (sc := usc sc 8000 0) (ar := ar) hF hM hP hlw hL).up (by omega)) (fun rv g1 hc => ?_)
    obtain ⟨rfl, sc1, ar1, rfl, hs1, ha1, hD⟩ := hc
    have hM1 := hM.sm hs1 ha1
    have hP1 : PMx nw nb W B (ar1 94) (ar1 95) := by rw [ha1 94 rfl, ha1 95 rfl]; exact hP
    have hrm : sc1 8052 = t3 (mny nw nb W B) := hD.1
    refine RQ.seg 2 (pc' := 20) (L' := [some (.ref 80), none, none, none]) (st' := [.ref 80, .int (iI 1)]) (g1 := (HW sc1 ar1 tx oc rl ou tl, q)) rfl ?_
    refine RQ.seg 1 (pc' := 23) (L' := [some (.ref 80), none, none, none]) (st' := [.int (iI (sc1 8025)), .int (iI 1)]) (g1 := (HW sc1 ar1 tx oc rl ou tl, q)) rfl ?_
    refine RQ.to (L' := [some (.ref 80), none, none, none]) (st' := [.int (iI nb), .int (iI 1)]) rfl (by rw [show sc1 8025 = nb from hM1.2.1]) ?_
    refine RQ.ishl1 (b := nb) rfl rfl rfl (by omega) ?_
    refine RQ.seg 7 (pc' := 31) (L' := [some (.ref 80), some (.int ((iI (2 ^ nb.toNat)) - (iI 1))), some (.int (iI 0)), some (.int (iI 0))]) (st' := []) (g1 := (HW sc1 ar1 tx oc rl ou tl, q)) rfl ?_
    refine RQ.to (L' := [some (.ref 80), some (.int (iI (2 ^ nb.toNat - 1))), some (.int (iI 0)), some (.int (iI 0))]) (st' := []) (by simp only [iI_add, iI_sub, iI_mul, iI_neg]) rfl ?_
    have hZ1 : SeO Z (sc1 8056) (ar1 87) (ar1 91) (ar1 111) (ar1 112) (ar1 113) := by rw [hs1 8056 rfl, ha1 87 rfl, ha1 91 rfl, ha1 111 rfl, ha1 112 rfl, ha1 113 rfl]; exact hZ
    have hlw1 : ∀ j, 0 ≤ j → j < 4 → ar1 87 j = law j := fun j h0 h1 => (congrFun (ha1 87 rfl) j).trans (hlw j h0 h1)
    refine m_kn_l hF hA hL (t3 (mny nw nb W B)).toNat 0 sc1 ar1 (by omega) hM1 hP1 hlw1 hD hZ1 (fun sc' ar' a1 a2 => ⟨?_, _, _, rfl, Same.tr (Same.tr (Same.us rfl Same.rf) hs1) a1, ha1.tr a2⟩)
    congr 3; unfold sKnocked; rw [if_pos (by omega)]
  · skip
    refine RQ.seg 1 (pc' := 13) (L' := [some (.ref 80), none, none, none]) (st' := [.int (iI (-1))]) (g1 := (HW (usc sc 8000 0) ar tx oc rl ou tl, q)) rfl ?_
    refine RQ.ret rfl rfl ?_
    refine ⟨?_, _, _, rfl, (by repeat (first | exact Same.rf | refine Same.us rfl ?_)), (by repeat (first | exact Same.rf | refine Same.us rfl ?_))⟩
    congr 3; unfold sKnocked; rw [if_neg (by omega)]
