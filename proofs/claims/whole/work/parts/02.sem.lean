/-! THE PURE MACHINE: values are the machine's own, but a reference is the number of a cell (0 .. 46: what the class and the reference made; 100: the script; 101 .. 103: the static rows); a memory says what each cell's int slots hold; refs between cells never change. -/
abbrev zM : Type := Nat → Nat → Int32
def zup (M : zM) (k j : Nat) (x : Int32) : zM := fun a b => if a = k then (if b = j then x else M a b) else M a b
/-- an entry of the code: pc, instruction, its length, two resolved numbers, a place in lw_tbl -/
abbrev zE : Type := Nat × Instr × Nat × Nat × Nat × Nat
/-- a method: class name, method, bytes, locals, return, static, its class in vwCl, parameters, places in lw_tbl of: code, initialized, static or instanceMethod, selects -/
abbrev zI : Type := String × MethodName × ByteArray × Nat × Option FieldType × Bool × Nat × Nat × Nat × Nat × Nat × Nat
def zget {α : Type} : List α → Nat → Option α
  | [], _ => none
  | a :: _, 0 => some a
  | _ :: r, n + 1 => zget r n
def zfb {α : Type} : List (Nat × α) → Nat → Option α
  | [], _ => none
  | (a, x) :: r, n => bif Nat.beq a n then some x else zfb r n
/-- what a cell is: an object (its class in vwCl, its slots: a cell, or an int), or an array (length, type, the cells that it holds) -/
abbrev zLy : Type := (Nat × List (Option Nat)) ⊕ (Nat × FieldType × List Nat)
def zlyL : List zLy := [
  .inl (6, [some 1, some 9, some 14, some 19, some 24, some 26, some 27, some 32]),
  .inl (4, [some 2, none]),
  .inr (6, .object "FewSigns$Sign", [3, 4, 5, 6, 7, 8]),
  .inl (3, [none, none, none, none, none]), .inl (3, [none, none, none, none, none]), .inl (3, [none, none, none, none, none]),
  .inl (3, [none, none, none, none, none]), .inl (3, [none, none, none, none, none]), .inl (3, [none, none, none, none, none]),
  .inl (1, [none, none, some 10, some 11, some 12, some 13, none, none, none]),
  .inr (4, .int, []), .inr (4, .int, []), .inr (4, .boolean, []), .inr (4, .int, []),
  .inl (1, [none, none, some 15, some 16, some 17, some 18, none, none, none]),
  .inr (16, .int, []), .inr (16, .int, []), .inr (16, .boolean, []), .inr (16, .int, []),
  .inl (1, [none, none, some 20, some 21, some 22, some 23, none, none, none]),
  .inr (256, .int, []), .inr (256, .int, []), .inr (256, .boolean, []), .inr (256, .int, []),
  .inl (5, [some 25, none]),
  .inr (80, .byte, []),
  .inl (2, [some 24, some 1, none, none, none, none, none]),
  .inr (4, .object "FewSigns$Formula", [28, 29, 30, 31]),
  .inl (0, [none, none, none, none]), .inl (0, [none, none, none, none]), .inl (0, [none, none, none, none]), .inl (0, [none, none, none, none]),
  .inr (4, .int, []),
  .inl (7, [none, none, some 34, some 35, some 36, some 37, none, none, none, some 38, none, some 39, some 40, some 41, none, none, some 42, some 43, some 44, some 45, some 46]),
  .inr (6, .int, []), .inr (6, .int, []), .inr (6, .int, []), .inr (256, .int, []), .inr (80, .int, []), .inr (120, .int, []), .inr (4, .int, []),
  .inr (30, .int, []), .inr (8, .int, []), .inr (8, .int, []), .inr (32, .int, []), .inr (32, .int, []), .inr (32, .int, [])]
def zlay (NC k : Nat) : Option zLy := bif Nat.ble NC k then none else zget zlyL k
/-- the rows that nobody writes: the script sc, the static rows -/
def zro (sc : Nat × (Nat → Int32)) (r : Nat) : Nat × (Nat → Int32) :=
  bif Nat.beq r 101 then (4, fun j => match j with | 0 => 255 | 1 => 85 | 2 => 17 | _ => 1)
  else bif Nat.beq r 102 then (6, fun j => match j with | 0 => 0 | 1 => 0 | 2 => 2 | 3 => 2 | 4 => 3 | _ => 3)
  else bif Nat.beq r 103 then (6, fun j => match j with | 0 => 0 | 1 => 1 | 2 => 8 | 3 => 14 | 4 => 150 | _ => 232)
  else sc
/-- a local's store: it takes the place i, and a long that ended there is gone -/
def zsl : List Value → Nat → Value → List Value
  | [], _, _ => []
  | _ :: r, 0, v => v :: r
  | .long _ :: r, 1, v => .null :: zsl r 0 v
  | .double _ :: r, 1, v => .null :: zsl r 0 v
  | a :: r, n + 1, v => a :: zsl r n v
/-- the locals at a method's start -/
def zlo : List Value → List Value
  | [] => []
  | .long x :: r => .long x :: .null :: zlo r
  | .double x :: r => .double x :: .null :: zlo r
  | v :: r => v :: zlo r
def zpad : Nat → List Value → List Value
  | 0, l => l
  | n + 1, [] => .null :: zpad n []
  | n + 1, v :: l => v :: zpad n l
def zpop : Nat → List Value → List Value → Option (List Value × List Value)
  | 0, acc, st => some (acc, st)
  | _ + 1, _, [] => none
  | n + 1, acc, v :: st => zpop n (v :: acc) st
def zslots : List Value → Nat
  | [] => 0
  | v :: r => v.category + zslots r
def zcmp (c : ClassFile.Cond) (x y : Int32) : Prop := match c with
  | .eq => x = y | .ne => ¬ x = y | .lt => x < y | .ge => y ≤ x | .gt => y < x | .le => x ≤ y
def zb2 (f : Int32 → Int32 → Int32) (κ : List Value → Prop) (st : List Value) : Prop := match st with
  | .int y :: .int x :: r => κ (.int (f x y) :: r)
  | _ => False
def zl2 (f : Int64 → Int64 → Int64) (κ : List Value → Prop) (st : List Value) : Prop := match st with
  | .long y :: .long x :: r => κ (.long (f x y) :: r)
  | _ => False
def zls (f : Int64 → Int32 → Int64) (κ : List Value → Prop) (st : List Value) : Prop := match st with
  | .int y :: .long x :: r => κ (.long (f x y) :: r)
  | _ => False
def zu1 (f : Int32 → Int32) (κ : List Value → Prop) (st : List Value) : Prop := match st with
  | .int x :: r => κ (.int (f x) :: r)
  | _ => False
def zldI (L : List Value) (i : Nat) (κ : Value → Prop) : Prop := match zget L i with
  | some (.int x) => κ (.int x)
  | _ => False
def zldJ (L : List Value) (i : Nat) (κ : Value → Prop) : Prop := match zget L i with
  | some (.long x) => κ (.long x)
  | _ => False
def zldA (L : List Value) (i : Nat) (κ : Value → Prop) : Prop := match zget L i with
  | some (.ref x) => κ (.ref x)
  | _ => False
def zstI (L : List Value) (i : Nat) (st : List Value) (κ : List Value → List Value → Prop) : Prop := match st with
  | .int x :: r => i < L.length ∧ κ (zsl L i (.int x)) r
  | _ => False
def zstA (L : List Value) (i : Nat) (st : List Value) (κ : List Value → List Value → Prop) : Prop := match st with
  | .ref x :: r => i < L.length ∧ κ (zsl L i (.ref x)) r
  | _ => False
def zinc (L : List Value) (i : Nat) (n : Int) (κ : List Value → Prop) : Prop := match zget L i with
  | some (.int x) => i < L.length ∧ κ (zsl L i (.int (x + Int32.ofInt n)))
  | _ => False
def zjmp (pc : Nat) (off : Int) (J : Nat → Prop) : Prop := (pc : Int) + off = (((pc : Int) + off).toNat : Int) ∧ J ((pc : Int) + off).toNat
def zifc (c : ClassFile.Cond) (pc : Nat) (off : Int) (st : List Value) (J : Nat → List Value → Prop) (κ : List Value → Prop) : Prop := match st with
  | .int x :: r => (pc : Int) + off = (((pc : Int) + off).toNat : Int) ∧ (zcmp c x 0 → J ((pc : Int) + off).toNat r) ∧ (¬ zcmp c x 0 → κ r)
  | _ => False
def zicm (c : ClassFile.Cond) (pc : Nat) (off : Int) (st : List Value) (J : Nat → List Value → Prop) (κ : List Value → Prop) : Prop := match st with
  | .int y :: .int x :: r => (pc : Int) + off = (((pc : Int) + off).toNat : Int) ∧ (zcmp c x y → J ((pc : Int) + off).toNat r) ∧ (¬ zcmp c x y → κ r)
  | _ => False
def zrem (st : List Value) (κ : List Value → Prop) : Prop := match st with
  | .int y :: .int x :: r => ¬ y = 0 ∧ κ (.int (x - x / y * y) :: r)
  | _ => False
def zdup (st : List Value) (κ : List Value → Prop) : Prop := match st with
  | v :: r => v.category = 1 ∧ κ (v :: v :: r)
  | _ => False
def zdup2 (st : List Value) (κ : List Value → Prop) : Prop := match st with
  | v :: w :: r => v.category = 1 ∧ w.category = 1 ∧ κ (v :: w :: v :: w :: r)
  | _ => False
def zi2l (st : List Value) (κ : List Value → Prop) : Prop := match st with
  | .int x :: r => κ (.long x.toInt64 :: r)
  | _ => False
def zl2i (st : List Value) (κ : List Value → Prop) : Prop := match st with
  | .long x :: r => κ (.int x.toInt32 :: r)
  | _ => False
def zgf (NC ci j : Nat) (M : zM) (st : List Value) (κ : List Value → Prop) : Prop := match st with
  | .ref k :: r => match zlay NC k with
    | some (.inl (c, fs)) => c = ci ∧ match zget fs j with
      | some (some q) => κ (.ref q :: r)
      | some none => κ (.int (M k j) :: r)
      | none => False
    | _ => False
  | _ => False
def zpf (NC ci j : Nat) (M : zM) (st : List Value) (κ : List Value → zM → Prop) : Prop := match st with
  | .int x :: .ref k :: r => match zlay NC k with
    | some (.inl (c, fs)) => c = ci ∧ match zget fs j with
      | some none => (ci = 1 ∧ j = 8 → x = 0 ∨ x = 1) ∧ κ r (zup M k j x)
      | _ => False
    | _ => False
  | _ => False
def zald (NC : Nat) (sc : Nat × (Nat → Int32)) (M : zM) (st : List Value) (κ : List Value → Prop) : Prop := match st with
  | .int i :: .ref k :: r => match zlay NC k with
    | some (.inr (n, .int, _)) => vp_in i n ∧ κ (.int (M k i.toNatClampNeg) :: r)
    | none => 100 ≤ k ∧ k ≤ 103 ∧ vp_in i (zro sc k).1 ∧ κ (.int ((zro sc k).2 i.toNatClampNeg) :: r)
    | _ => False
  | _ => False
def zbld (NC : Nat) (M : zM) (st : List Value) (κ : List Value → Prop) : Prop := match st with
  | .int i :: .ref k :: r => match zlay NC k with
    | some (.inr (n, .byte, _)) => vp_in i n ∧ κ (.int (M k i.toNatClampNeg) :: r)
    | some (.inr (n, .boolean, _)) => vp_in i n ∧ κ (.int (M k i.toNatClampNeg) :: r)
    | _ => False
  | _ => False
def zast (NC : Nat) (M : zM) (st : List Value) (κ : List Value → zM → Prop) : Prop := match st with
  | .int x :: .int i :: .ref k :: r => match zlay NC k with
    | some (.inr (n, .int, _)) => vp_in i n ∧ κ r (zup M k i.toNatClampNeg x)
    | _ => False
  | _ => False
def zbst (NC : Nat) (M : zM) (st : List Value) (κ : List Value → zM → Prop) : Prop := match st with
  | .int x :: .int i :: .ref k :: r => match zlay NC k with
    | some (.inr (n, .byte, _)) => vp_in i n ∧ κ r (zup M k i.toNatClampNeg (vp_nar .byte x))
    | some (.inr (n, .boolean, _)) => vp_in i n ∧ κ r (zup M k i.toNatClampNeg (vp_nar .boolean x))
    | _ => False
  | _ => False
def zrld (NC : Nat) (st : List Value) (κ : List Value → Prop) : Prop := match st with
  | .int i :: .ref k :: r => match zlay NC k with
    | some (.inr (n, .object _, qs)) => vp_in i n ∧ (match zget qs i.toNatClampNeg with
      | some q => κ (.ref q :: r)
      | none => False)
    | _ => False
  | _ => False
def zlen (NC : Nat) (sc : Nat × (Nat → Int32)) (st : List Value) (κ : List Value → Prop) : Prop := match st with
  | .ref k :: r => match zlay NC k with
    | some (.inr (n, _, _)) => κ (.int (Int32.ofNat n) :: r)
    | none => 100 ≤ k ∧ k ≤ 103 ∧ κ (.int (Int32.ofNat (zro sc k).1) :: r)
    | _ => False
  | _ => False
def zts (pc : Nat) (d lo hi : Int) (offs : Array Int) (st : List Value) (J : Nat → List Value → Prop) : Prop := match st with
  | .int x :: r => (x.toInt < lo ∨ hi < x.toInt → zjmp pc d (fun t => J t r)) ∧ (¬ x.toInt < lo → ¬ hi < x.toInt → ∃ off, offs[(x.toInt - lo).toNat]? = some off ∧ zjmp pc off (fun t => J t r))
  | _ => False
def zlks (pc : Nat) (d : Int) (ps : Array (Int × Int)) (st : List Value) (J : Nat → List Value → Prop) : Prop := match st with
  | .int x :: r => (ps.toList.zip (ps.toList.drop 1)).all (fun (a, next) => a.1 < next.1) = true ∧ zjmp pc (Op.lookupswitch.offset ps.toList d x.toInt) (fun t => J t r)
  | _ => False
/-- Math.max -/
def zmx (st : List Value) (κ : List Value → Prop) : Prop := match st with
  | .int y :: .int x :: r => zslots r ≤ 8 ∧ κ (.int (if x < y then y else x) :: r)
  | _ => False
/-- a call: of the method a, with n parameters; the receiver's cell is of its class -/
def zcs (I : Nat → Option zI) (C : Nat → List Value → zM → Option Value → zM → Prop) (a : Nat) (st : List Value) (M : zM) (κ : List Value → zM → Prop) : Prop := match I a with
  | some i => i.2.2.2.2.2.1 = true ∧ (match zpop i.2.2.2.2.2.2.2.1 [] st with
    | some (as, r) => zslots r ≤ 8 ∧ ∃ v M', C a as M v M' ∧ κ (v.toList ++ r) M'
    | none => False)
  | none => False
def zcv (NC : Nat) (I : Nat → Option zI) (C : Nat → List Value → zM → Option Value → zM → Prop) (a : Nat) (st : List Value) (M : zM) (κ : List Value → zM → Prop) : Prop := match I a with
  | some i => i.2.2.2.2.2.1 = false ∧ (match zpop i.2.2.2.2.2.2.2.1 [] st with
    | some (as, .ref k :: r) => zslots r ≤ 8 ∧ (match zlay NC k with
      | some (.inl (c, _)) => c = i.2.2.2.2.2.2.1 ∧ ∃ v M', C a (.ref k :: as) M v M' ∧ κ (v.toList ++ r) M'
      | _ => False)
    | _ => False)
  | none => False
/-- one instruction -/
def zop (NC : Nat) (sc : Nat × (Nat → Int32)) (I : Nat → Option zI) (C : Nat → List Value → zM → Option Value → zM → Prop) (J : Nat → List Value → List Value → zM → Prop) (fin : Option Value → zM → Prop) (κ : List Value → List Value → zM → Prop) (e : zE) (L st : List Value) (M : zM) : Prop :=
  match e.2.1 with
  | .iconst n => κ L (.int (Int32.ofInt n) :: st) M
  | .bipush n => κ L (.int (Int8.ofInt n).toInt32 :: st) M
  | .sipush n => κ L (.int (Int16.ofInt n).toInt32 :: st) M
  | .ldc _ => κ L (.int (nI e.2.2.2.1) :: st) M
  | .ldc_w _ => κ L (.int (nI e.2.2.2.1) :: st) M
  | .ldc2_w _ => κ L (.long (Int64.ofNat e.2.2.2.1) :: st) M
  | .iload_n i => zldI L i (fun v => κ L (v :: st) M)
  | .iload i => zldI L i (fun v => κ L (v :: st) M)
  | .lload_n i => zldJ L i (fun v => κ L (v :: st) M)
  | .aload_n i => zldA L i (fun v => κ L (v :: st) M)
  | .aload i => zldA L i (fun v => κ L (v :: st) M)
  | .istore_n i => zstI L i st (fun L' r => κ L' r M)
  | .istore i => zstI L i st (fun L' r => κ L' r M)
  | .astore_n i => zstA L i st (fun L' r => κ L' r M)
  | .astore i => zstA L i st (fun L' r => κ L' r M)
  | .iinc i n => zinc L i n (fun L' => κ L' st M)
  | .iadd => zb2 (fun x y => x + y) (fun st' => κ L st' M) st
  | .isub => zb2 (fun x y => x - y) (fun st' => κ L st' M) st
  | .imul => zb2 (fun x y => x * y) (fun st' => κ L st' M) st
  | .iand => zb2 (fun x y => x &&& y) (fun st' => κ L st' M) st
  | .ior => zb2 (fun x y => x ||| y) (fun st' => κ L st' M) st
  | .ixor => zb2 (fun x y => x ^^^ y) (fun st' => κ L st' M) st
  | .ishl => zb2 (fun x y => x <<< (y &&& 31)) (fun st' => κ L st' M) st
  | .ishr => zb2 (fun x y => x >>> (y &&& 31)) (fun st' => κ L st' M) st
  | .iushr => zb2 (fun x y => (x.toUInt32 >>> (y.toUInt32 &&& Int32.toUInt32 31)).toInt32) (fun st' => κ L st' M) st
  | .irem => zrem st (fun st' => κ L st' M)
  | .ineg => zu1 (fun x => -x) (fun st' => κ L st' M) st
  | .i2b => zu1 (fun x => x.toInt8.toInt32) (fun st' => κ L st' M) st
  | .i2l => zi2l st (fun st' => κ L st' M)
  | .l2i => zl2i st (fun st' => κ L st' M)
  | .land => zl2 (fun x y => x &&& y) (fun st' => κ L st' M) st
  | .lor => zl2 (fun x y => x ||| y) (fun st' => κ L st' M) st
  | .lshl => zls (fun x y => x <<< (y.toInt64 &&& 63)) (fun st' => κ L st' M) st
  | .lshr => zls (fun x y => x >>> (y.toInt64 &&& 63)) (fun st' => κ L st' M) st
  | .lushr => zls (fun x y => (x.toUInt64 >>> (y.toInt64.toUInt64 &&& Int64.toUInt64 63)).toInt64) (fun st' => κ L st' M) st
  | .dup => zdup st (fun st' => κ L st' M)
  | .dup2 => zdup2 st (fun st' => κ L st' M)
  | .goto off => zjmp e.1 off (fun t => J t L st M)
  | .ifCond c off => zifc c e.1 off st (fun t r => J t L r M) (fun r => κ L r M)
  | .if_icmp c off => zicm c e.1 off st (fun t r => J t L r M) (fun r => κ L r M)
  | .tableswitch d lo hi offs => zts e.1 d lo hi offs st (fun t r => J t L r M)
  | .lookupswitch d ps => zlks e.1 d ps st (fun t r => J t L r M)
  | .getfield _ => zgf NC e.2.2.2.1 e.2.2.2.2.1 M st (fun r => κ L r M)
  | .putfield _ => zpf NC e.2.2.2.1 e.2.2.2.2.1 M st (fun r M' => κ L r M')
  | .getstatic _ => (101 ≤ e.2.2.2.1 ∧ e.2.2.2.1 ≤ 103) ∧ κ L (.ref e.2.2.2.1 :: st) M
  | .iaload => zald NC sc M st (fun r => κ L r M)
  | .baload => zbld NC M st (fun r => κ L r M)
  | .iastore => zast NC M st (fun r M' => κ L r M')
  | .bastore => zbst NC M st (fun r M' => κ L r M')
  | .aaload => zrld NC st (fun r => κ L r M)
  | .arraylength => zlen NC sc st (fun r => κ L r M)
  | .invokestatic _ => bif Nat.beq e.2.2.2.1 88 then zmx st (fun st' => κ L st' M) else zcs I C e.2.2.2.1 st M (fun r M' => κ L r M')
  | .invokevirtual _ => zcv NC I C e.2.2.2.1 st M (fun r M' => κ L r M')
  | .ireturn => (match st with
    | [.int v] => fin (some (.int v)) M
    | _ => False)
  | .areturn => (match st with
    | [.ref v] => fin (some (.ref v)) M
    | _ => False)
  | .return_ => (match st with
    | [] => fin none M
    | _ => False)
  | _ => False
/-- a block, then on at np -/
def zwp (NC : Nat) (sc : Nat × (Nat → Int32)) (I : Nat → Option zI) (C : Nat → List Value → zM → Option Value → zM → Prop) (J : Nat → List Value → List Value → zM → Prop) (fin : Option Value → zM → Prop) (np : Nat) : List zE → List Value → List Value → zM → Prop
  | [] => fun L st M => J np L st M
  | e :: es => fun L st M => zop NC sc I C J fin (fun L' st' M' => zwp NC sc I C J fin np es L' st' M') e L st M
