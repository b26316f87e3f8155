section StepD
variable {p : Program} {l : Launch} {e : Env} {R : Room} {s : State} {m : MethodId} {args : Array Value} {below : List Frame} {meth : Method} {c : Code} {Q : State → Prop} {D : va_G} {A : Nat → Prop} {ka : Nat → Nat} {ws0 : va_W} {c0 s0 nL : Nat} {cc : ByteArray} {pc : Nat} {L : PL} {st : List Value} {g : PG} {S : PS} {own : Nat} {ini : Bool} {K : PK}
theorem pstep_ok {ins : Instr} {len : Nat} (Ev : EnvOK p R s m args meth c cc own ini nL A ka K) (hr : S.2.2.2.2.1 ≤ c0 + R.cells ∧ S.2.2.2.2.2 ≤ s0 + R.slots) (hd : decode cc pc = .ok (ins, len)) (hl : lenOK ins len = true) (h : pstep own ini K ins pc L st g = some S) (k : PW p l e R s m args below meth c Q D A ka ws0 c0 s0 nL S.1 S.2.1 S.2.2.1 S.2.2.2) : PW p l e R s m args below meth c Q D A ka ws0 c0 s0 nL pc L st g := by
  have hx := Ev.1
  have hb := Ev.2.1
  cases ins with
  | iconst n =>
    obtain rfl : len = 1 := Nat.eq_of_beq_eq_true hl
    exact w_iconst hx hb hd h k
  | aconst_null =>
    obtain rfl : len = 1 := Nat.eq_of_beq_eq_true hl
    exact w_null hx hb hd h k
  | lconst n =>
    obtain rfl : len = 1 := Nat.eq_of_beq_eq_true hl
    exact w_lconst hx hb hd h k
  | bipush n =>
    obtain rfl : len = 2 := Nat.eq_of_beq_eq_true hl
    exact w_bipush hx hb hd h k
  | sipush n =>
    obtain rfl : len = 3 := Nat.eq_of_beq_eq_true hl
    exact w_sipush hx hb hd h k
  | iload_n n =>
    obtain rfl : len = 1 := Nat.eq_of_beq_eq_true hl
    exact w_iload_n hx hb hd h k
  | iload i =>
    obtain rfl : len = 2 := Nat.eq_of_beq_eq_true hl
    exact w_iload hx hb hd h k
  | istore_n n =>
    obtain rfl : len = 1 := Nat.eq_of_beq_eq_true hl
    exact w_istore_n hx hb hd h k
  | istore i =>
    obtain rfl : len = 2 := Nat.eq_of_beq_eq_true hl
    exact w_istore hx hb hd h k
  | lload_n n =>
    obtain rfl : len = 1 := Nat.eq_of_beq_eq_true hl
    exact w_lload_n hx hb hd h k
  | lload i =>
    obtain rfl : len = 2 := Nat.eq_of_beq_eq_true hl
    exact w_lload hx hb hd h k
  | lstore_n n =>
    obtain rfl : len = 1 := Nat.eq_of_beq_eq_true hl
    exact w_lstore_n hx hb hd h k
  | lstore i =>
    obtain rfl : len = 2 := Nat.eq_of_beq_eq_true hl
    exact w_lstore hx hb hd h k
  | aload_n n =>
    obtain rfl : len = 1 := Nat.eq_of_beq_eq_true hl
    exact w_aload_n hx hb hd h k
  | aload i =>
    obtain rfl : len = 2 := Nat.eq_of_beq_eq_true hl
    exact w_aload hx hb hd h k
  | astore_n n =>
    obtain rfl : len = 1 := Nat.eq_of_beq_eq_true hl
    exact w_astore_n hx hb hd h k
  | astore i =>
    obtain rfl : len = 2 := Nat.eq_of_beq_eq_true hl
    exact w_astore hx hb hd h k
  | iinc i n =>
    obtain rfl : len = 3 := Nat.eq_of_beq_eq_true hl
    exact w_iinc hx hb hd h k
  | iadd =>
    obtain rfl : len = 1 := Nat.eq_of_beq_eq_true hl
    exact w_iadd hx hb hd h k
  | isub =>
    obtain rfl : len = 1 := Nat.eq_of_beq_eq_true hl
    exact w_isub hx hb hd h k
  | imul =>
    obtain rfl : len = 1 := Nat.eq_of_beq_eq_true hl
    exact w_imul hx hb hd h k
  | iand =>
    obtain rfl : len = 1 := Nat.eq_of_beq_eq_true hl
    exact w_iand hx hb hd h k
  | ior =>
    obtain rfl : len = 1 := Nat.eq_of_beq_eq_true hl
    exact w_ior hx hb hd h k
  | ixor =>
    obtain rfl : len = 1 := Nat.eq_of_beq_eq_true hl
    exact w_ixor hx hb hd h k
  | ishl =>
    obtain rfl : len = 1 := Nat.eq_of_beq_eq_true hl
    exact w_ishl hx hb hd h k
  | ishr =>
    obtain rfl : len = 1 := Nat.eq_of_beq_eq_true hl
    exact w_ishr hx hb hd h k
  | iushr =>
    obtain rfl : len = 1 := Nat.eq_of_beq_eq_true hl
    exact w_iushr hx hb hd h k
  | idiv =>
    obtain rfl : len = 1 := Nat.eq_of_beq_eq_true hl
    exact w_idiv hx hb hd h k
  | irem =>
    obtain rfl : len = 1 := Nat.eq_of_beq_eq_true hl
    exact w_irem hx hb hd h k
  | ineg =>
    obtain rfl : len = 1 := Nat.eq_of_beq_eq_true hl
    exact w_ineg hx hb hd h k
  | i2l =>
    obtain rfl : len = 1 := Nat.eq_of_beq_eq_true hl
    exact w_i2l hx hb hd h k
  | i2b =>
    obtain rfl : len = 1 := Nat.eq_of_beq_eq_true hl
    exact w_i2b hx hb hd h k
  | l2i =>
    obtain rfl : len = 1 := Nat.eq_of_beq_eq_true hl
    exact w_l2i hx hb hd h k
  | ladd =>
    obtain rfl : len = 1 := Nat.eq_of_beq_eq_true hl
    exact w_ladd hx hb hd h k
  | lsub =>
    obtain rfl : len = 1 := Nat.eq_of_beq_eq_true hl
    exact w_lsub hx hb hd h k
  | lmul =>
    obtain rfl : len = 1 := Nat.eq_of_beq_eq_true hl
    exact w_lmul hx hb hd h k
  | land =>
    obtain rfl : len = 1 := Nat.eq_of_beq_eq_true hl
    exact w_land hx hb hd h k
  | lor =>
    obtain rfl : len = 1 := Nat.eq_of_beq_eq_true hl
    exact w_lor hx hb hd h k
  | ldiv =>
    obtain rfl : len = 1 := Nat.eq_of_beq_eq_true hl
    exact w_ldiv hx hb hd h k
  | lrem =>
    obtain rfl : len = 1 := Nat.eq_of_beq_eq_true hl
    exact w_lrem hx hb hd h k
  | lshl =>
    obtain rfl : len = 1 := Nat.eq_of_beq_eq_true hl
    exact w_lshl hx hb hd h k
  | lushr =>
    obtain rfl : len = 1 := Nat.eq_of_beq_eq_true hl
    exact w_lushr hx hb hd h k
  | lcmp =>
    obtain rfl : len = 1 := Nat.eq_of_beq_eq_true hl
    exact w_lcmp hx hb hd h k
  | dup =>
    obtain rfl : len = 1 := Nat.eq_of_beq_eq_true hl
    exact w_dup hx hb hd h k
  | dup2 =>
    obtain rfl : len = 1 := Nat.eq_of_beq_eq_true hl
    exact w_dup2 hx hb hd h k
  | pop =>
    obtain rfl : len = 1 := Nat.eq_of_beq_eq_true hl
    exact w_pop hx hb hd h k
  | if_icmp cd off =>
    obtain rfl : len = 3 := Nat.eq_of_beq_eq_true hl
    cases cd with
    | eq => exact w_icmp_eq hx hb hd h k
    | ne => exact w_icmp_ne hx hb hd h k
    | lt => exact w_icmp_lt hx hb hd h k
    | ge => exact w_icmp_ge hx hb hd h k
    | gt => exact w_icmp_gt hx hb hd h k
    | le => exact w_icmp_le hx hb hd h k
  | ifCond cd off =>
    obtain rfl : len = 3 := Nat.eq_of_beq_eq_true hl
    cases cd with
    | eq => exact w_if_eq hx hb hd h k
    | ne => exact w_if_ne hx hb hd h k
    | lt => exact w_if_lt hx hb hd h k
    | ge => exact w_if_ge hx hb hd h k
    | gt => exact w_if_gt hx hb hd h k
    | le => exact w_if_le hx hb hd h k
  | ifnonnull off =>
    obtain rfl : len = 3 := Nat.eq_of_beq_eq_true hl
    exact w_ifnonnull hx hb hd h k
  | goto off =>
    obtain rfl : len = 3 := Nat.eq_of_beq_eq_true hl
    exact w_goto hx hb hd h k
  | tableswitch d lo hi offs =>
    exact w_tsw hx hb hd h k
  | lookupswitch d ps =>
    exact w_lsw hx hb hd h k
  | getfield i =>
    obtain rfl : len = 3 := Nat.eq_of_beq_eq_true hl
    exact w_getfield Ev hd h k
  | putfield i =>
    obtain rfl : len = 3 := Nat.eq_of_beq_eq_true hl
    exact w_putfield Ev hd h k
  | getstatic i =>
    obtain rfl : len = 3 := Nat.eq_of_beq_eq_true hl
    exact w_getstatic Ev hd h k
  | ldc i =>
    obtain rfl : len = 2 := Nat.eq_of_beq_eq_true hl
    exact w_ldc Ev hd h k
  | ldc_w i =>
    obtain rfl : len = 3 := Nat.eq_of_beq_eq_true hl
    exact w_ldc_w Ev hd h k
  | ldc2_w i =>
    obtain rfl : len = 3 := Nat.eq_of_beq_eq_true hl
    exact w_ldc2 Ev hd h k
  | arraylength =>
    obtain rfl : len = 1 := Nat.eq_of_beq_eq_true hl
    exact w_alen Ev hd h k
  | iaload =>
    obtain rfl : len = 1 := Nat.eq_of_beq_eq_true hl
    exact w_iaload Ev hd h k
  | baload =>
    obtain rfl : len = 1 := Nat.eq_of_beq_eq_true hl
    exact w_baload Ev hd h k
  | laload =>
    obtain rfl : len = 1 := Nat.eq_of_beq_eq_true hl
    exact w_laload Ev hd h k
  | aaload =>
    obtain rfl : len = 1 := Nat.eq_of_beq_eq_true hl
    exact w_aaload Ev hd h k
  | iastore =>
    obtain rfl : len = 1 := Nat.eq_of_beq_eq_true hl
    exact w_iastore Ev hd h k
  | bastore =>
    obtain rfl : len = 1 := Nat.eq_of_beq_eq_true hl
    exact w_bastore Ev hd h k
  | lastore =>
    obtain rfl : len = 1 := Nat.eq_of_beq_eq_true hl
    exact w_lastore Ev hd h k
  | aastore =>
    obtain rfl : len = 1 := Nat.eq_of_beq_eq_true hl
    exact w_aastore Ev hd h k
  | invokespecial i =>
    obtain rfl : len = 3 := Nat.eq_of_beq_eq_true hl
    exact w_obj Ev hd h k
  | invokestatic i =>
    obtain rfl : len = 3 := Nat.eq_of_beq_eq_true hl
    exact w_acp Ev hd h k
  | new i =>
    obtain rfl : len = 3 := Nat.eq_of_beq_eq_true hl
    exact w_new Ev hr hd h k
  | newarray t =>
    obtain rfl : len = 2 := Nat.eq_of_beq_eq_true hl
    exact w_newa Ev hr hd h k
  | anewarray i =>
    obtain rfl : len = 3 := Nat.eq_of_beq_eq_true hl
    exact w_anew Ev hr hd h k
  | multianewarray i d =>
    obtain rfl : len = 4 := Nat.eq_of_beq_eq_true hl
    have h1 : (bif Nat.beq d 2 then pmna own i (pc + 4) L g st else none) = some S := h
    cases hd2 : Nat.beq d 2 with
    | false => rw [hd2] at h1; cases h1
    | true =>
      rw [hd2] at h1
      obtain rfl : d = 2 := Nat.eq_of_beq_eq_true hd2
      exact w_mna Ev hr hd h1 k
  | _ => cases h
end StepD
