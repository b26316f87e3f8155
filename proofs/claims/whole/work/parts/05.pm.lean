/-! THE PURE MACHINE: a heap whose references are places of a list; constants (static arrays, texts, the script) are 'retAddr n' -/
/-- a place of the pure heap: an array (its type's number, its length, what it holds) or an object (its class' number, its fields) -/
abbrev PO : Type := (Nat × vp_A) ⊕ (Nat × List Value)
/-- the heap, how many cells were made, how many slots -/
abbrev PG : Type := List PO × Nat × Nat
abbrev PL : Type := List (Option Value)
/-- pc, locals, operand stack, heap -/
abbrev PS : Type := Nat × PL × List Value × PG
/-- the constants that are arrays of ints -/
abbrev PK : Type := Nat → Option (Nat × (Nat → Int32))
def aty : Nat → FieldType
  | 0 => .int
  | 1 => .byte
  | 2 => .long
  | 3 => .object "ThreeLadders$Code"
  | _ => .array .int
def ilit (n : Int) : Int32 := match n with
  | .ofNat k => nI k
  | .negSucc k => -nI (k + 1)
def ptgt (pc : Nat) (off : Int) : Option Nat := match (pc : Int) + off with
  | .ofNat t => some t
  | .negSucc _ => none
def pclr (L : PL) : Nat → PL
  | 0 => L
  | j + 1 => match L.getD j none with
    | some (.long _) => L.set j none
    | some (.double _) => L.set j none
    | _ => L
def pst1 (L : PL) (i : Nat) (v : Value) : Option PL := bif Nat.ble (i + 1) L.length then some ((pclr L i).set i (some v)) else none
def pst2 (L : PL) (i : Nat) (v : Value) : Option PL := bif Nat.ble (i + 2) L.length then some (((pclr L i).set i (some v)).set (i + 1) none) else none
def pldi (L : PL) (i pc : Nat) (st : List Value) (g : PG) : Option PS := match L.getD i none with
  | some (.int x) => some (pc, L, .int x :: st, g)
  | _ => none
def pldl (L : PL) (i pc : Nat) (st : List Value) (g : PG) : Option PS := match L.getD i none with
  | some (.long x) => some (pc, L, .long x :: st, g)
  | _ => none
def plda (L : PL) (i pc : Nat) (st : List Value) (g : PG) : Option PS := match L.getD i none with
  | some (.ref a) => some (pc, L, .ref a :: st, g)
  | some (.retAddr k) => some (pc, L, .retAddr k :: st, g)
  | some .null => some (pc, L, .null :: st, g)
  | _ => none
def psti (L : PL) (i pc : Nat) (g : PG) : List Value → Option PS
  | .int x :: r => (pst1 L i (.int x)).map fun L' => (pc, L', r, g)
  | _ => none
def pstl (L : PL) (i pc : Nat) (g : PG) : List Value → Option PS
  | .long x :: r => (pst2 L i (.long x)).map fun L' => (pc, L', r, g)
  | _ => none
def psta (L : PL) (i pc : Nat) (g : PG) : List Value → Option PS
  | .ref a :: r => (pst1 L i (.ref a)).map fun L' => (pc, L', r, g)
  | .retAddr k :: r => (pst1 L i (.retAddr k)).map fun L' => (pc, L', r, g)
  | .null :: r => (pst1 L i .null).map fun L' => (pc, L', r, g)
  | _ => none
def piinc (L : PL) (i : Nat) (n : Int) (pc : Nat) (st : List Value) (g : PG) : Option PS := match L.getD i none with
  | some (.int x) => (pst1 L i (.int (x + ilit n))).map fun L' => (pc, L', st, g)
  | _ => none
def pbin (f : Int32 → Int32 → Int32) (pc : Nat) (L : PL) (g : PG) : List Value → Option PS
  | .int y :: .int x :: r => some (pc, L, .int (f x y) :: r, g)
  | _ => none
def pbinz (f : Int32 → Int32 → Int32) (pc : Nat) (L : PL) (g : PG) : List Value → Option PS
  | .int y :: .int x :: r => if y = 0 then none else some (pc, L, .int (f x y) :: r, g)
  | _ => none
def pbinl (f : Int64 → Int64 → Int64) (pc : Nat) (L : PL) (g : PG) : List Value → Option PS
  | .long y :: .long x :: r => some (pc, L, .long (f x y) :: r, g)
  | _ => none
def pbinlz (f : Int64 → Int64 → Int64) (pc : Nat) (L : PL) (g : PG) : List Value → Option PS
  | .long y :: .long x :: r => if y = 0 then none else some (pc, L, .long (f x y) :: r, g)
  | _ => none
def pshl (f : Int64 → Int32 → Int64) (pc : Nat) (L : PL) (g : PG) : List Value → Option PS
  | .int y :: .long x :: r => some (pc, L, .long (f x y) :: r, g)
  | _ => none
def plcmp (pc : Nat) (L : PL) (g : PG) : List Value → Option PS
  | .long y :: .long x :: r => some (pc, L, .int (lg_cmp x y) :: r, g)
  | _ => none
def puni (f : Int32 → Value) (pc : Nat) (L : PL) (g : PG) : List Value → Option PS
  | .int x :: r => some (pc, L, f x :: r, g)
  | _ => none
def punl (f : Int64 → Value) (pc : Nat) (L : PL) (g : PG) : List Value → Option PS
  | .long x :: r => some (pc, L, f x :: r, g)
  | _ => none
def icmp (c : ClassFile.Cond) (x y : Int32) : Bool := match c with
  | .eq => decide (x = y)
  | .ne => decide (¬ x = y)
  | .lt => decide (x < y)
  | .ge => decide (y ≤ x)
  | .gt => decide (y < x)
  | .le => decide (x ≤ y)
def pif2 (c : ClassFile.Cond) (pc : Nat) (t : Option Nat) (L : PL) (g : PG) : List Value → Option PS
  | .int y :: .int x :: r => t.map fun t => (bif icmp c x y then t else pc + 3, L, r, g)
  | _ => none
def pif1 (c : ClassFile.Cond) (pc : Nat) (t : Option Nat) (L : PL) (g : PG) : List Value → Option PS
  | .int x :: r => t.map fun t => (bif icmp c x 0 then t else pc + 3, L, r, g)
  | _ => none
def pifnn (pc : Nat) (t : Option Nat) (L : PL) (g : PG) : List Value → Option PS
  | .null :: r => some (pc + 3, L, r, g)
  | .ref _ :: r => t.map fun t => (t, L, r, g)
  | .retAddr _ :: r => t.map fun t => (t, L, r, g)
  | _ => none
def ptsw (d lo hi : Int) (offs : Array Int) (pc : Nat) (L : PL) (g : PG) : List Value → Option PS
  | .int x :: r => (if x.toInt < lo ∨ hi < x.toInt then some d else offs[(x.toInt - lo).toNat]?).bind fun o => (ptgt pc o).map fun t => (t, L, r, g)
  | _ => none
def plsw (d : Int) (ps : Array (Int × Int)) (pc : Nat) (L : PL) (g : PG) : List Value → Option PS
  | .int x :: r => bif (ps.toList.zip (ps.toList.drop 1)).all (fun (a, next) => a.1 < next.1) then (ptgt pc (Op.lookupswitch.offset ps.toList d x.toInt)).map fun t => (t, L, r, g) else none
  | _ => none
def pcat1 : Value → Bool
  | .long _ => false
  | .double _ => false
  | _ => true
def pdup (pc : Nat) (L : PL) (g : PG) : List Value → Option PS
  | v :: r => bif pcat1 v then some (pc, L, v :: v :: r, g) else none
  | _ => none
def pdup2 (pc : Nat) (L : PL) (g : PG) : List Value → Option PS
  | v :: w :: r => bif pcat1 v && pcat1 w then some (pc, L, v :: w :: v :: w :: r, g) else none
  | _ => none
def ppop (pc : Nat) (L : PL) (g : PG) : List Value → Option PS
  | v :: r => bif pcat1 v then some (pc, L, r, g) else none
  | _ => none
def pldcv (v : Option Value) (pc : Nat) (L : PL) (st : List Value) (g : PG) : Option PS := match v with
  | some (.int x) => some (pc, L, .int x :: st, g)
  | some (.retAddr k) => some (pc, L, .retAddr k :: st, g)
  | _ => none
def pldcl (v : Option Value) (pc : Nat) (L : PL) (st : List Value) (g : PG) : Option PS := match v with
  | some (.long x) => some (pc, L, .long x :: st, g)
  | _ => none
def pgetf (own i pc : Nat) (L : PL) (g : PG) : List Value → Option PS
  | .ref a :: r => match pfld own i with
    | some (lc, k) => match g.1[a]? with
      | some (.inr (ci, fs)) => bif lc.elem ci then (match fs[k]? with
        | some v => some (pc + 3, L, v :: r, g)
        | none => none) else none
      | _ => none
    | none => none
  | _ => none
def pfit : FieldType → Value → Bool
  | .boolean, .int x => x == 0 || x == 1
  | .int, .int _ => true
  | .long, .long _ => true
  | .object _, .ref _ => true
  | .object _, .null => true
  | .object _, .retAddr _ => true
  | .array _, .ref _ => true
  | .array _, .null => true
  | .array _, .retAddr _ => true
  | _, _ => false
def pfin (own : Nat) (ini : Bool) (ci k : Nat) : Bool := match classes[ci]? with
  | some c => bif (c.2.1 k).2.2.2 then ini && decide ((c.2.1 k).1 = cnm own) else true
  | none => false
def pputf (own : Nat) (ini : Bool) (i pc : Nat) (L : PL) (g : PG) : List Value → Option PS
  | v :: .ref a :: r => match pfld own i with
    | some (lc, k) => match g.1[a]? with
      | some (.inr (ci, fs)) => bif lc.elem ci && (pfit (tyOf ci k) v && (pfin own ini ci k && Nat.ble (k + 1) fs.length)) then some (pc + 3, L, r, (g.1.set a (.inr (ci, fs.set k v)), g.2)) else none
      | _ => none
    | none => none
  | _ => none
def pgets (n : Option Nat) (pc : Nat) (L : PL) (st : List Value) (g : PG) : Option PS := n.map fun n => (pc, L, .retAddr n :: st, g)
def palen (K : PK) (pc : Nat) (L : PL) (g : PG) : List Value → Option PS
  | .ref a :: r => match g.1[a]? with
    | some (.inl (_, n, _)) => some (pc, L, .int (nI n) :: r, g)
    | _ => none
  | .retAddr k :: r => match K k with
    | some (n, _) => some (pc, L, .int (nI n) :: r, g)
    | none => none
  | _ => none
def pin (i : Int32) (n : Nat) : Bool := decide (¬ (i < 0 ∨ n ≤ i.toNatClampNeg))
def piald (K : PK) (pc : Nat) (L : PL) (g : PG) : List Value → Option PS
  | .int i :: .ref a :: r => match g.1[a]? with
    | some (.inl (0, n, .inl f)) => bif pin i n then some (pc, L, .int (f i.toNatClampNeg) :: r, g) else none
    | _ => none
  | .int i :: .retAddr k :: r => match K k with
    | some (n, f) => bif pin i n then some (pc, L, .int (f i.toNatClampNeg) :: r, g) else none
    | none => none
  | _ => none
def pbald (pc : Nat) (L : PL) (g : PG) : List Value → Option PS
  | .int i :: .ref a :: r => match g.1[a]? with
    | some (.inl (1, n, .inl f)) => bif pin i n then some (pc, L, .int (f i.toNatClampNeg) :: r, g) else none
    | _ => none
  | _ => none
def plald (pc : Nat) (L : PL) (g : PG) : List Value → Option PS
  | .int i :: .ref a :: r => match g.1[a]? with
    | some (.inl (2, n, .inr (.inl f))) => bif pin i n then some (pc, L, .long (f i.toNatClampNeg) :: r, g) else none
    | _ => none
  | _ => none
def paald (pc : Nat) (L : PL) (g : PG) : List Value → Option PS
  | .int i :: .ref a :: r => match g.1[a]? with
    | some (.inl (t, n, .inr (.inr (.inr (.inr f))))) => bif pin i n && Nat.ble 3 t then some (pc, L, va_rf (f i.toNatClampNeg) :: r, g) else none
    | _ => none
  | _ => none
def piast (pc : Nat) (L : PL) (g : PG) : List Value → Option PS
  | .int x :: .int i :: .ref a :: r => match g.1[a]? with
    | some (.inl (0, n, .inl f)) => bif pin i n then some (pc, L, r, (g.1.set a (.inl (0, n, .inl (upd f i.toNatClampNeg x))), g.2)) else none
    | _ => none
  | _ => none
def pbast (pc : Nat) (L : PL) (g : PG) : List Value → Option PS
  | .int x :: .int i :: .ref a :: r => match g.1[a]? with
    | some (.inl (1, n, .inl f)) => bif pin i n then some (pc, L, r, (g.1.set a (.inl (1, n, .inl (upd f i.toNatClampNeg (vp_nar .byte x)))), g.2)) else none
    | _ => none
  | _ => none
def plast (pc : Nat) (L : PL) (g : PG) : List Value → Option PS
  | .long x :: .int i :: .ref a :: r => match g.1[a]? with
    | some (.inl (2, n, .inr (.inl f))) => bif pin i n then some (pc, L, r, (g.1.set a (.inl (2, n, .inr (.inl (vp_updL f i.toNatClampNeg x)))), g.2)) else none
    | _ => none
  | _ => none
def paast (pc : Nat) (L : PL) (g : PG) : List Value → Option PS
  | .ref v :: .int i :: .ref a :: r => match g.1[a]? with
    | some (.inl (3, n, .inr (.inr (.inr (.inr f))))) => (match g.1[v]? with
      | some (.inr (0, _)) => bif pin i n then some (pc, L, r, (g.1.set a (.inl (3, n, .inr (.inr (.inr (.inr (va_up f i.toNatClampNeg (some v))))))), g.2)) else none
      | _ => none)
    | _ => none
  | _ => none
def ppnew (c : Option Nat) (pc : Nat) (L : PL) (st : List Value) (g : PG) : Option PS := c.map fun ci => (pc, L, .ref g.1.length :: st, (g.1 ++ [.inr (ci, dfl ci)], g.2.1 + 1, g.2.2 + (dfl ci).length))
def pnewa (t : ArrayType) (pc : Nat) (L : PL) (g : PG) : List Value → Option PS
  | .int n :: r => bif decide (¬ n < 0) && Nat.ble n.toNatClampNeg 1000000 then (match t with
    | .int => some (pc, L, .ref g.1.length :: r, (g.1 ++ [.inl (0, n.toNatClampNeg, .inl (fun _ => 0))], g.2.1 + 1, g.2.2 + n.toNatClampNeg))
    | .byte => some (pc, L, .ref g.1.length :: r, (g.1 ++ [.inl (1, n.toNatClampNeg, .inl (fun _ => 0))], g.2.1 + 1, g.2.2 + n.toNatClampNeg))
    | .long => some (pc, L, .ref g.1.length :: r, (g.1 ++ [.inl (2, n.toNatClampNeg, .inr (.inl (fun _ => 0)))], g.2.1 + 1, g.2.2 + n.toNatClampNeg))
    | _ => none) else none
  | _ => none
def panew (c : Option Nat) (pc : Nat) (L : PL) (g : PG) : List Value → Option PS
  | .int n :: r => bif decide (¬ n < 0) && (Nat.ble n.toNatClampNeg 1000000 && decide (c = some 0)) then some (pc, L, .ref g.1.length :: r, (g.1 ++ [.inl (3, n.toNatClampNeg, .inr (.inr (.inr (.inr (fun _ => none)))))], g.2.1 + 1, g.2.2 + n.toNatClampNeg)) else none
  | _ => none
def pmna (own i : Nat) (pc : Nat) (L : PL) (g : PG) : List Value → Option PS
  | .int k :: .int n :: r => bif mnaL.elem (own, i) && (decide (¬ n < 0) && (decide (¬ k < 0) && (Nat.ble n.toNatClampNeg 1000000 && Nat.ble k.toNatClampNeg 1000000))) then
      some (pc, L, .ref g.1.length :: r, (g.1 ++ (.inl (4, n.toNatClampNeg, .inr (.inr (.inr (.inr (fun j => if j < n.toNatClampNeg then some (g.1.length + 1 + j) else none))))) :: List.replicate n.toNatClampNeg (.inl (0, k.toNatClampNeg, .inl (fun _ => 0)))), g.2.1 + 1 + n.toNatClampNeg, g.2.2 + n.toNatClampNeg + n.toNatClampNeg * k.toNatClampNeg)) else none
  | _ => none
def pwords (st : List Value) : Nat := (st.map fun v => v.category).sum
def pobj (own i pc : Nat) (L : PL) (g : PG) : List Value → Option PS
  | .ref _ :: r => bif obL.elem (own, i) && Nat.ble (pwords r) 8 then some (pc, L, r, g) else none
  | _ => none
def pacp (K : PK) (own i pc : Nat) (L : PL) (g : PG) : List Value → Option PS
  | .int n :: .int dp :: .ref b :: .int sp :: .ref a :: r => bif acL.elem (own, i) && Nat.ble (pwords r) 8 then (match g.1[a]?, g.1[b]? with
    | some (.inl (0, n0, .inl f)), some (.inl (0, n1, .inl f1)) =>
      if ¬ sp < 0 ∧ ¬ dp < 0 ∧ ¬ n < 0 ∧ sp.toNatClampNeg + n.toNatClampNeg ≤ n0 ∧ dp.toNatClampNeg + n.toNatClampNeg ≤ n1 then some (pc, L, r, (g.1.set b (.inl (0, n1, .inl (va_cpy f f1 sp.toNatClampNeg dp.toNatClampNeg n.toNatClampNeg))), g.2)) else none
    | _, _ => none) else none
  | .int n :: .int dp :: .ref b :: .int sp :: .retAddr k :: r => bif acL.elem (own, i) && Nat.ble (pwords r) 8 then (match K k, g.1[b]? with
    | some (n0, f), some (.inl (0, n1, .inl f1)) =>
      if ¬ sp < 0 ∧ ¬ dp < 0 ∧ ¬ n < 0 ∧ sp.toNatClampNeg + n.toNatClampNeg ≤ n0 ∧ dp.toNatClampNeg + n.toNatClampNeg ≤ n1 then some (pc, L, r, (g.1.set b (.inl (0, n1, .inl (va_cpy f f1 sp.toNatClampNeg dp.toNatClampNeg n.toNatClampNeg))), g.2)) else none
    | _, _ => none) else none
  | _ => none
/-- one step that is no call and no return -/
def pstep (own : Nat) (ini : Bool) (K : PK) (ins : Instr) (pc : Nat) (L : PL) (st : List Value) (g : PG) : Option PS := match ins with
  | .iconst n => some (pc + 1, L, .int (ilit n) :: st, g)
  | .bipush n => if -128 ≤ n ∧ n < 128 then some (pc + 2, L, .int (ilit n) :: st, g) else none
  | .sipush n => if -32768 ≤ n ∧ n < 32768 then some (pc + 3, L, .int (ilit n) :: st, g) else none
  | .lconst n => some (pc + 1, L, .long (lN n) :: st, g)
  | .ldc i => pldcv (pldc own i) (pc + 2) L st g
  | .ldc_w i => pldcv (pldc own i) (pc + 3) L st g
  | .ldc2_w i => pldcl (pldc own i) (pc + 3) L st g
  | .aconst_null => some (pc + 1, L, .null :: st, g)
  | .iload_n n => pldi L n (pc + 1) st g
  | .iload i => pldi L i (pc + 2) st g
  | .lload_n n => pldl L n (pc + 1) st g
  | .lload i => pldl L i (pc + 2) st g
  | .aload_n n => plda L n (pc + 1) st g
  | .aload i => plda L i (pc + 2) st g
  | .istore_n n => psti L n (pc + 1) g st
  | .istore i => psti L i (pc + 2) g st
  | .lstore_n n => pstl L n (pc + 1) g st
  | .lstore i => pstl L i (pc + 2) g st
  | .astore_n n => psta L n (pc + 1) g st
  | .astore i => psta L i (pc + 2) g st
  | .iinc i n => piinc L i n (pc + 3) st g
  | .iadd => pbin (fun x y => x + y) (pc + 1) L g st
  | .isub => pbin (fun x y => x - y) (pc + 1) L g st
  | .imul => pbin (fun x y => x * y) (pc + 1) L g st
  | .iand => pbin (fun x y => x &&& y) (pc + 1) L g st
  | .ior => pbin (fun x y => x ||| y) (pc + 1) L g st
  | .ixor => pbin (fun x y => x ^^^ y) (pc + 1) L g st
  | .ishl => pbin (fun x y => x <<< (y &&& 31)) (pc + 1) L g st
  | .ishr => pbin (fun x y => x >>> (y &&& 31)) (pc + 1) L g st
  | .iushr => pbin (fun x y => (x.toUInt32 >>> (y.toUInt32 &&& Int32.toUInt32 31)).toInt32) (pc + 1) L g st
  | .idiv => pbinz (fun x y => x / y) (pc + 1) L g st
  | .irem => pbinz (fun x y => x - x / y * y) (pc + 1) L g st
  | .ineg => puni (fun x => .int (-x)) (pc + 1) L g st
  | .i2l => puni (fun x => .long x.toInt64) (pc + 1) L g st
  | .i2b => puni (fun x => .int x.toInt8.toInt32) (pc + 1) L g st
  | .l2i => punl (fun x => .int x.toInt32) (pc + 1) L g st
  | .ladd => pbinl (fun x y => x + y) (pc + 1) L g st
  | .lsub => pbinl (fun x y => x - y) (pc + 1) L g st
  | .lmul => pbinl (fun x y => x * y) (pc + 1) L g st
  | .land => pbinl (fun x y => x &&& y) (pc + 1) L g st
  | .lor => pbinl (fun x y => x ||| y) (pc + 1) L g st
  | .ldiv => pbinlz (fun x y => x / y) (pc + 1) L g st
  | .lrem => pbinlz (fun x y => x - x / y * y) (pc + 1) L g st
  | .lshl => pshl (fun x y => x <<< (y.toInt64 &&& 63)) (pc + 1) L g st
  | .lushr => pshl (fun x y => (x.toUInt64 >>> (y.toInt64.toUInt64 &&& Int64.toUInt64 63)).toInt64) (pc + 1) L g st
  | .lcmp => plcmp (pc + 1) L g st
  | .if_icmp c off => pif2 c pc (ptgt pc off) L g st
  | .ifCond c off => pif1 c pc (ptgt pc off) L g st
  | .ifnonnull off => pifnn pc (ptgt pc off) L g st
  | .goto off => (ptgt pc off).map fun t => (t, L, st, g)
  | .tableswitch d lo hi offs => ptsw d lo hi offs pc L g st
  | .lookupswitch d ps => plsw d ps pc L g st
  | .dup => pdup (pc + 1) L g st
  | .dup2 => pdup2 (pc + 1) L g st
  | .pop => ppop (pc + 1) L g st
  | .getfield i => pgetf own i pc L g st
  | .putfield i => pputf own ini i pc L g st
  | .getstatic i => pgets (pstat own i) (pc + 3) L st g
  | .arraylength => palen K (pc + 1) L g st
  | .iaload => piald K (pc + 1) L g st
  | .baload => pbald (pc + 1) L g st
  | .laload => plald (pc + 1) L g st
  | .aaload => paald (pc + 1) L g st
  | .iastore => piast (pc + 1) L g st
  | .bastore => pbast (pc + 1) L g st
  | .lastore => plast (pc + 1) L g st
  | .aastore => paast (pc + 1) L g st
  | .new i => ppnew (pnew own i) (pc + 3) L st g
  | .newarray t => pnewa t (pc + 2) L g st
  | .anewarray i => panew (pnew own i) (pc + 3) L g st
  | .multianewarray i d => bif Nat.beq d 2 then pmna own i (pc + 4) L g st else none
  | .invokespecial i => pobj own i (pc + 3) L g st
  | .invokestatic i => pacp K own i (pc + 3) L g st
  | _ => none
def lenOK (ins : Instr) (n : Nat) : Bool := match ins with
  | .bipush _ | .ldc _ | .iload _ | .lload _ | .aload _ | .istore _ | .lstore _ | .astore _ | .newarray _ => Nat.beq n 2
  | .sipush _ | .ldc_w _ | .ldc2_w _ | .iinc .. | .if_icmp .. | .ifCond .. | .ifnonnull _ | .goto _ | .getfield _ | .putfield _ | .getstatic _ | .invokevirtual _ | .invokespecial _ | .invokestatic _ | .new _ | .anewarray _ => Nat.beq n 3
  | .multianewarray .. => Nat.beq n 4
  | .tableswitch .. | .lookupswitch .. => true
  | _ => Nat.beq n 1
def pret (rt : Option FieldType) (ins : Instr) (st : List Value) : Option (Option Value) := match ins with
  | .ireturn => (match st with
    | [.int v] => (match rt with
      | some .int => some (some (.int v))
      | some .boolean => bif v == 0 || v == 1 then some (some (.int v)) else none
      | _ => none)
    | _ => none)
  | .lreturn => (match st with
    | [.long v] => (match rt with
      | some .long => some (some (.long v))
      | _ => none)
    | _ => none)
  | .areturn => (match st with
    | [.ref a] => (match rt with
      | some (.object _) => some (some (.ref a))
      | _ => none)
    | _ => none)
  | .return_ => (match st with
    | [] => (match rt with
      | none => some none
      | _ => none)
    | _ => none)
  | _ => none
/-- calls on constant texts: length, charAt -/
def pstr (own i : Nat) : List Value → Option (Nat × List Value × List Value)
  | .retAddr k :: r => bif Nat.beq own 11 && (Nat.beq i 138 && (Nat.ble 20 k && (Nat.ble k 24 && Nat.ble (pwords r) 8))) then some (243, [.retAddr k], r) else none
  | .int j :: .retAddr k :: r => bif Nat.beq own 11 && (Nat.beq i 144 && (Nat.ble 20 k && (Nat.ble k 24 && Nat.ble (pwords r) 8))) then some (244, [.retAddr k, .int j], r) else none
  | _ => none
def pcall (own : Nat) (ins : Instr) (st : List Value) (g : PG) : Option (Nat × List Value × List Value) := match ins with
  | .invokestatic i => (match pinvS own i with
    | some (k, n) => bif Nat.ble n st.length && Nat.ble (pwords (st.drop n)) 8 then some (k, (st.take n).reverse, st.drop n) else none
    | none => none)
  | .invokespecial i => (match pinvI own i with
    | some (k, n) => (match st.drop n with
      | .ref a :: r => bif Nat.ble (pwords r) 8 then some (k, .ref a :: (st.take n).reverse, r) else none
      | _ => none)
    | none => none)
  | .invokevirtual i => (match pinvV own i with
    | some (n, l) => (match st.drop n with
      | .ref a :: r => (match g.1[a]? with
        | some (.inr (ci, _)) => (match alook ci l with
          | some k => bif Nat.ble (pwords r) 8 then some (k, .ref a :: (st.take n).reverse, r) else none
          | none => none)
        | _ => none)
      | _ => none)
    | none => pstr own i st)
  | _ => none
def pfetch (cd : PC) (pc : Nat) : Option (Instr × Nat) := alook pc (cd.getD (pc / 16) [])
/-- a run of a method's body in at most n steps; O: what calls do -/
def RunN (O : Nat → List Value → PG → Option Value → PG → Prop) (own : Nat) (ini : Bool) (rt : Option FieldType) (K : PK) (cd : PC) : Nat → Nat → PL → List Value → PG → Option Value → PG → Prop
  | 0, _, _, _, _, _, _ => False
  | n + 1, pc, L, st, g, r, g' => ∃ ins len, pfetch cd pc = some (ins, len) ∧ ((pret rt ins st = some r ∧ g' = g) ∨
      (∃ S : PS, pstep own ini K ins pc L st g = some S ∧ RunN O own ini rt K cd n S.1 S.2.1 S.2.2.1 S.2.2.2 r g') ∨
      (∃ k as rest rv g1, pcall own ins st g = some (k, as, rest) ∧ O k as g rv g1 ∧ RunN O own ini rt K cd n (pc + 3) L (rv.toList ++ rest) g1 r g'))
def pargs : List Value → PL
  | [] => []
  | .long x :: vs => some (.long x) :: none :: pargs vs
  | .double x :: vs => some (.double x) :: none :: pargs vs
  | v :: vs => some v :: pargs vs
def pinit (n : Nat) (as : List Value) : PL := pargs as ++ List.replicate (n - (pargs as).length) none
