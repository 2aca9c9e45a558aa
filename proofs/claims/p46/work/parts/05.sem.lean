/-! A small machine over numbered cells: what the class's code does to them, as a function with fuel. -/
/-- a value, its address told by the number of its cell -/
def xv (ρ : Nat → Nat) : Value → Value
  | .ref a => .ref (ρ a)
  | v => v
abbrev xE : Type := (Nat × vp_A) ⊕ (Nat × List Value)
/-- cells, whether the next cell's address is known, how many cells and slots were made -/
abbrev xM : Type := List xE × Bool × Nat × Nat
abbrev xL : Type := List (Option Value)
abbrev xF : Type := Nat × xL × List Value
abbrev xR : Type := (Nat ⊕ Option Value) × xM
/-- the arrays that are only read: 1000000 the schemes, 1000001 the changed digits, 1000002 the script; 1000003 is the one text -/
def xro (S : Nat × (Nat → Int32)) (h : Nat) : Option (Nat × Nat × (Nat → Int32)) :=
  bif Nat.beq h 1000002 then some (0, S.1, S.2)
  else bif Nat.beq h 1000001 then some (0, 10, fun k => ([1, 5, 7, 6, 2, 8, 3, 0, 9, 4] : List Int32).getD k 0)
  else bif Nat.beq h 1000000 then some (3, 4, fun k => ([108, 101, 110, 116] : List Int32).getD k 0)
  else none
def xkill (L : xL) (i : Nat) : xL := match i with
  | 0 => L
  | j + 1 => match L[j]? with
    | some (some x) => if x.category = 2 then L.set j none else L
    | _ => L
def xset1 (L : xL) (i : Nat) (v : Value) : xL := (xkill L i).set i (some v)
def xset2 (L : xL) (i : Nat) (v : Value) : xL := ((xkill L i).set i (some v)).set (i + 1) none
def xlay : List Value → xL
  | [] => []
  | v :: r => if v.category = 2 then some v :: none :: xlay r else some v :: xlay r
def xent (n : Nat) (args : List Value) : xL := xlay args ++ List.replicate (n - (xlay args).length) none
def xcmp (k : Jvm.ClassFile.Cond) (x y : Int32) : Bool := match k with
  | .eq => decide (x = y)
  | .ne => decide (¬ x = y)
  | .lt => decide (x < y)
  | .ge => decide (y ≤ x)
  | .gt => decide (y < x)
  | .le => decide (x ≤ y)
def xfit : FieldType → Value → Bool
  | .int, .int _ => true
  | .long, .long _ => true
  | .boolean, .int y => y == 0 || y == 1
  | .object _, .ref _ => true
  | .array _, .ref _ => true
  | _, _ => false
def xty (ci k : Nat) : FieldType := (xTy.getD ci (fun _ => .int)) k
def xnf (ci : Nat) : Nat := (xNf.getD ci 0)
def xdef (ci : Nat) : List Value := (List.range (xnf ci)).map (fun k => defaultValue (xty ci k))
/-- is the place inside -/
def xin (i : Int32) (n : Nat) : Bool := !(decide (i < 0) || Nat.ble n i.toNatClampNeg)
def xsm (st : List Value) : Bool := Nat.ble (st.map fun v => v.category).sum 8
def xpu (F : xF) (len : Nat) (v : Value) (r : List Value) : xF := (F.1 + len, F.2.1, v :: r)
/-- a cell that nothing is told of: an exception's -/
def xdead : xE := .inl (9, 0, .inl fun _ => 0)
/-- a new cell at the number n, gaps ahead of it -/
def xpad (AH : List xE) (n : Nat) (c : xE) : List xE := AH ++ List.replicate (n - AH.length) xdead ++ [c]
/-- a step that neither calls nor ends -/
def xone (S : Nat × (Nat → Int32)) (x : xI) (F : xF) (M : xM) : Option (xF × xM) :=
  match x.1 with
  | .iconst _ => some (xpu F 1 x.2.2.2.2.2 F.2.2, M)
  | .bipush _ => some (xpu F 2 x.2.2.2.2.2 F.2.2, M)
  | .sipush _ => some (xpu F 3 x.2.2.2.2.2 F.2.2, M)
  | .lconst _ => some (xpu F 1 x.2.2.2.2.2 F.2.2, M)
  | .ldc2_w _ => some (xpu F 3 x.2.2.2.2.2 F.2.2, M)
  | .ldc _ => bif Nat.beq x.2.2.1 0 then some (xpu F 2 x.2.2.2.2.2 F.2.2, M) else bif Nat.beq x.2.2.1 2 then some (xpu F 2 (.ref 1000003) F.2.2, M) else none
  | .ldc_w _ => bif Nat.beq x.2.2.1 0 then some (xpu F 3 x.2.2.2.2.2 F.2.2, M) else none
  | .iload _ => (match F.2.1[x.2.2.1]? with | some (some (.int y)) => some (xpu F 2 (.int y) F.2.2, M) | _ => none)
  | .iload_n _ => (match F.2.1[x.2.2.1]? with | some (some (.int y)) => some (xpu F 1 (.int y) F.2.2, M) | _ => none)
  | .lload _ => (match F.2.1[x.2.2.1]? with | some (some (.long y)) => some (xpu F 2 (.long y) F.2.2, M) | _ => none)
  | .lload_n _ => (match F.2.1[x.2.2.1]? with | some (some (.long y)) => some (xpu F 1 (.long y) F.2.2, M) | _ => none)
  | .aload _ => (match F.2.1[x.2.2.1]? with | some (some (.ref y)) => some (xpu F 2 (.ref y) F.2.2, M) | _ => none)
  | .aload_n _ => (match F.2.1[x.2.2.1]? with | some (some (.ref y)) => some (xpu F 1 (.ref y) F.2.2, M) | _ => none)
  | .istore _ => (match F.2.2 with | .int y :: r => some ((F.1 + 2, xset1 F.2.1 x.2.2.1 (.int y), r), M) | _ => none)
  | .istore_n _ => (match F.2.2 with | .int y :: r => some ((F.1 + 1, xset1 F.2.1 x.2.2.1 (.int y), r), M) | _ => none)
  | .lstore _ => (match F.2.2 with | .long y :: r => some ((F.1 + 2, xset2 F.2.1 x.2.2.1 (.long y), r), M) | _ => none)
  | .lstore_n _ => (match F.2.2 with | .long y :: r => some ((F.1 + 1, xset2 F.2.1 x.2.2.1 (.long y), r), M) | _ => none)
  | .astore _ => (match F.2.2 with | .ref y :: r => some ((F.1 + 2, xset1 F.2.1 x.2.2.1 (.ref y), r), M) | _ => none)
  | .astore_n _ => (match F.2.2 with | .ref y :: r => some ((F.1 + 1, xset1 F.2.1 x.2.2.1 (.ref y), r), M) | _ => none)
  | .iinc _ _ => (match F.2.1[x.2.2.1]?, x.2.2.2.2.2 with | some (some (.int y)), .int c => some ((F.1 + 3, xset1 F.2.1 x.2.2.1 (.int (y + c)), F.2.2), M) | _, _ => none)
  | .iadd => (match F.2.2 with | .int y :: .int z :: r => some (xpu F 1 (.int (z + y)) r, M) | _ => none)
  | .isub => (match F.2.2 with | .int y :: .int z :: r => some (xpu F 1 (.int (z - y)) r, M) | _ => none)
  | .imul => (match F.2.2 with | .int y :: .int z :: r => some (xpu F 1 (.int (z * y)) r, M) | _ => none)
  | .iand => (match F.2.2 with | .int y :: .int z :: r => some (xpu F 1 (.int (z &&& y)) r, M) | _ => none)
  | .ior => (match F.2.2 with | .int y :: .int z :: r => some (xpu F 1 (.int (z ||| y)) r, M) | _ => none)
  | .ixor => (match F.2.2 with | .int y :: .int z :: r => some (xpu F 1 (.int (z ^^^ y)) r, M) | _ => none)
  | .idiv => (match F.2.2 with | .int y :: .int z :: r => if y = 0 then none else some (xpu F 1 (.int (z / y)) r, M) | _ => none)
  | .irem => (match F.2.2 with | .int y :: .int z :: r => if y = 0 then none else some (xpu F 1 (.int (z - z / y * y)) r, M) | _ => none)
  | .ishl => (match F.2.2 with | .int y :: .int z :: r => some (xpu F 1 (.int (z <<< (y &&& 31))) r, M) | _ => none)
  | .ishr => (match F.2.2 with | .int y :: .int z :: r => some (xpu F 1 (.int (z >>> (y &&& 31))) r, M) | _ => none)
  | .iushr => (match F.2.2 with | .int y :: .int z :: r => some (xpu F 1 (.int (z.toUInt32 >>> (y.toUInt32 &&& Int32.toUInt32 31)).toInt32) r, M) | _ => none)
  | .ladd => (match F.2.2 with | .long y :: .long z :: r => some (xpu F 1 (.long (z + y)) r, M) | _ => none)
  | .lsub => (match F.2.2 with | .long y :: .long z :: r => some (xpu F 1 (.long (z - y)) r, M) | _ => none)
  | .lmul => (match F.2.2 with | .long y :: .long z :: r => some (xpu F 1 (.long (z * y)) r, M) | _ => none)
  | .land => (match F.2.2 with | .long y :: .long z :: r => some (xpu F 1 (.long (z &&& y)) r, M) | _ => none)
  | .lor => (match F.2.2 with | .long y :: .long z :: r => some (xpu F 1 (.long (z ||| y)) r, M) | _ => none)
  | .lxor => (match F.2.2 with | .long y :: .long z :: r => some (xpu F 1 (.long (z ^^^ y)) r, M) | _ => none)
  | .lrem => (match F.2.2 with | .long y :: .long z :: r => if y = 0 then none else some (xpu F 1 (.long (z - z / y * y)) r, M) | _ => none)
  | .lshl => (match F.2.2 with | .int y :: .long z :: r => some (xpu F 1 (.long (z <<< (y.toInt64 &&& 63))) r, M) | _ => none)
  | .lushr => (match F.2.2 with | .int y :: .long z :: r => some (xpu F 1 (.long (z.toUInt64 >>> (y.toInt64.toUInt64 &&& Int64.toUInt64 63)).toInt64) r, M) | _ => none)
  | .lcmp => (match F.2.2 with | .long y :: .long z :: r => some (xpu F 1 (.int (lg_cmp z y)) r, M) | _ => none)
  | .i2l => (match F.2.2 with | .int y :: r => some (xpu F 1 (.long y.toInt64) r, M) | _ => none)
  | .l2i => (match F.2.2 with | .long y :: r => some (xpu F 1 (.int y.toInt32) r, M) | _ => none)
  | .i2c => (match F.2.2 with | .int y :: r => some (xpu F 1 (.int (y.toUInt32 % 65536).toInt32) r, M) | _ => none)
  | .dup => (match F.2.2 with | y :: r => bif Nat.beq y.category 1 then some (xpu F 1 y (y :: r), M) else none | _ => none)
  | .pop => (match F.2.2 with | y :: r => bif Nat.beq y.category 1 then some ((F.1 + 1, F.2.1, r), M) else none | _ => none)
  | .dup2 => (match F.2.2 with | y :: z :: r => bif Nat.beq y.category 1 && Nat.beq z.category 1 then some ((F.1 + 1, F.2.1, y :: z :: y :: z :: r), M) else none | _ => none)
  | .goto _ => some ((x.2.2.1, F.2.1, F.2.2), M)
  | .ifCond k _ => (match F.2.2 with | .int y :: r => some ((bif xcmp k y 0 then x.2.2.1 else F.1 + 3, F.2.1, r), M) | _ => none)
  | .if_icmp k _ => (match F.2.2 with | .int y :: .int z :: r => some ((bif xcmp k z y then x.2.2.1 else F.1 + 3, F.2.1, r), M) | _ => none)
  | .tableswitch d lo hi offs => (match F.2.2 with
    | .int y :: r => if y.toInt < lo ∨ hi < y.toInt then some ((((F.1 : Int) + d).toNat, F.2.1, r), M)
      else (match offs[(y.toInt - lo).toNat]? with | some off => some ((((F.1 : Int) + off).toNat, F.2.1, r), M) | none => none)
    | _ => none)
  | .getfield _ => (match F.2.2 with
    | .ref h :: r => (match M.1[h]? with
      | some (.inr (ci, fs)) => bif Nat.beq ci x.2.2.1 then (match fs[x.2.2.2.1]? with | some u => some (xpu F 3 u r, M) | none => none) else none
      | _ => none)
    | _ => none)
  | .putfield _ => (match F.2.2 with
    | u :: .ref h :: r => (match M.1[h]? with
      | some (.inr (ci, fs)) => bif Nat.beq ci x.2.2.1 && Nat.blt x.2.2.2.1 fs.length && xfit (xty x.2.2.1 x.2.2.2.1) u then
          some ((F.1 + 3, F.2.1, r), (M.1.set h (.inr (ci, fs.set x.2.2.2.1 u)), M.2)) else none
      | _ => none)
    | _ => none)
  | .getstatic _ => some (xpu F 3 (.ref (1000000 + x.2.2.1)) F.2.2, M)
  | .arraylength => (match F.2.2 with
    | .ref h :: r => (match M.1[h]? with
      | some (.inl (t, c)) => bif Nat.blt t 4 then some (xpu F 1 (.int (Int32.ofNat c.1)) r, M) else none
      | some _ => none
      | none => (match xro S h with | some (_, n, _) => some (xpu F 1 (.int (Int32.ofNat n)) r, M) | none => none))
    | _ => none)
  | .iaload => (match F.2.2 with
    | .int i :: .ref h :: r => (match M.1[h]? with
      | some (.inl (t, n, .inl f)) => bif Nat.beq t 0 && xin i n then some (xpu F 1 (.int (f i.toNatClampNeg)) r, M) else none
      | some _ => none
      | none => (match xro S h with | some (t, n, f) => bif Nat.beq t 0 && xin i n then some (xpu F 1 (.int (f i.toNatClampNeg)) r, M) else none | none => none))
    | _ => none)
  | .caload => (match F.2.2 with
    | .int i :: .ref h :: r => (match M.1[h]? with
      | none => (match xro S h with | some (t, n, f) => bif Nat.beq t 3 && xin i n then some (xpu F 1 (.int (f i.toNatClampNeg)) r, M) else none | none => none)
      | _ => none)
    | _ => none)
  | .baload => (match F.2.2 with
    | .int i :: .ref h :: r => (match M.1[h]? with
      | some (.inl (t, n, .inl f)) => bif Nat.beq t 2 && xin i n then some (xpu F 1 (.int (f i.toNatClampNeg)) r, M) else none
      | _ => none)
    | _ => none)
  | .laload => (match F.2.2 with
    | .int i :: .ref h :: r => (match M.1[h]? with
      | some (.inl (t, n, .inr (.inl f))) => bif Nat.beq t 1 && xin i n then some (xpu F 1 (.long (f i.toNatClampNeg)) r, M) else none
      | _ => none)
    | _ => none)
  | .iastore => (match F.2.2 with
    | .int y :: .int i :: .ref h :: r => (match M.1[h]? with
      | some (.inl (t, n, .inl f)) => bif Nat.beq t 0 && xin i n then some ((F.1 + 1, F.2.1, r), (M.1.set h (.inl (t, n, .inl (upd f i.toNatClampNeg y))), M.2)) else none
      | _ => none)
    | _ => none)
  | .bastore => (match F.2.2 with
    | .int y :: .int i :: .ref h :: r => (match M.1[h]? with
      | some (.inl (t, n, .inl f)) => bif Nat.beq t 2 && xin i n then some ((F.1 + 1, F.2.1, r), (M.1.set h (.inl (t, n, .inl (upd f i.toNatClampNeg (vp_nar .boolean y)))), M.2)) else none
      | _ => none)
    | _ => none)
  | .lastore => (match F.2.2 with
    | .long y :: .int i :: .ref h :: r => (match M.1[h]? with
      | some (.inl (t, n, .inr (.inl f))) => bif Nat.beq t 1 && xin i n then some ((F.1 + 1, F.2.1, r), (M.1.set h (.inl (t, n, .inr (.inl (vp_updL f i.toNatClampNeg y)))), M.2)) else none
      | _ => none)
    | _ => none)
  | .new _ => bif Nat.ble M.1.length M.2.2.1 then some (xpu F 3 (.ref M.2.2.1) F.2.2, (xpad M.1 M.2.2.1 (.inr (x.2.2.1, xdef x.2.2.1)), M.2.1, M.2.2.1 + 1, M.2.2.2 + xnf x.2.2.1)) else none
  | .newarray _ => (match F.2.2 with
    | .int n :: r => bif Nat.ble M.1.length M.2.2.1 && !(decide (n < 0)) && Nat.ble n.toNatClampNeg 100000 then
        some (xpu F 2 (.ref M.2.2.1) r, (xpad M.1 M.2.2.1 (.inl (x.2.2.1, n.toNatClampNeg, bif Nat.beq x.2.2.1 1 then .inr (.inl fun _ => 0) else .inl fun _ => 0)), M.2.1, M.2.2.1 + 1, M.2.2.2 + n.toNatClampNeg)) else none
    | _ => none)
  | .invokevirtual _ => (match F.2.2 with
    | .int k :: .ref h :: r => bif Nat.beq x.2.2.1 1003 && Nat.beq h 1000003 && xin k 4 && xsm r then some (xpu F 3 (.int (([108, 101, 110, 116] : List Int32).getD k.toNatClampNeg 0)) r, M) else none
    | _ => none)
  | .invokespecial _ => (match F.2.2 with | .ref _ :: r => bif Nat.beq x.2.2.1 1000 && xsm r then some ((F.1 + 3, F.2.1, r), M) else none | _ => none)
  | .invokestatic _ => (match F.2.2 with
    | .int y :: .int z :: r => bif Nat.beq x.2.2.1 1001 && xsm r then some (xpu F 3 (.int (if z < y then y else z)) r, M)
        else bif Nat.beq x.2.2.1 1002 && xsm r then some (xpu F 3 (.int (if y < z then y else z)) r, M) else none
    | _ => none)
  | _ => none
/-- 0 a plain step, 1 a return, 2 a call, 3 a throw -/
def xkd (x : xI) : Nat := match x.1 with
  | .ireturn => 1
  | .lreturn => 1
  | .return_ => 1
  | .invokestatic _ => bif Nat.ble 1000 x.2.2.1 then 0 else 2
  | .invokevirtual _ => bif Nat.beq x.2.2.1 1003 then 0 else 2
  | .invokespecial _ => bif Nat.ble 1000 x.2.2.1 then 0 else 2
  | .new _ => bif Nat.ble 2000 x.2.2.1 then 3 else 0
  | _ => 0
def xret (rt : Option FieldType) (ins : Instr) (st : List Value) : Option (Option Value) := match ins with
  | .ireturn => (match st, rt with
    | [.int r], some .int => some (some (.int r))
    | [.int r], some .boolean => bif r == 0 || r == 1 then some (some (.int r)) else none
    | _, _ => none)
  | .lreturn => (match st, rt with | [.long r], some .long => some (some (.long r)) | _, _ => none)
  | .return_ => (match st, rt with | [], none => some none | _, _ => none)
  | _ => none
def xcat (k : Nat) : Nat := bif Nat.beq k 58 then 0 else bif Nat.beq k 56 then 2 else bif Nat.beq k 68 then 3 else bif Nat.beq k 74 then 4 else bif Nat.beq k 80 then 5 else 6
def xhnd : List (Nat × Nat × Nat × Nat) → Nat → Nat → Option Nat
  | [], _, _ => none
  | h :: t, pc, e => bif Nat.ble h.1 pc && Nat.blt pc h.2.1 && Nat.beq (xcat h.2.2.2) e then some h.2.2.1 else xhnd t pc e
/-- a handler's first step puts the exception away; where it goes on -/
def xcatch (i : Nat) (F : xF) (e : Nat) : Option xF := match xhnd (xmd i).2.2.2.2.2.2 F.1 e with
  | none => none
  | some hp => (match xcod i hp with
    | some (.astore _, _, k, _, _, _) => some (hp + 2, (xkill F.2.1 k).set k none, [])
    | some (.astore_n _, _, k, _, _, _) => some (hp + 1, (xkill F.2.1 k).set k none, [])
    | _ => none)
def xargs (n : Nat) (st : List Value) : List Value := (st.take n).reverse
/-- may this be called: enough on the stack, little below, and for a virtual one the receiver's class -/
def xmay (x : xI) (st : List Value) (M : xM) : Bool :=
  Nat.ble (xmd x.2.2.1).2.2.2.2.2.1 st.length && Nat.ble (xlay (xargs (xmd x.2.2.1).2.2.2.2.2.1 st)).length (xmd x.2.2.1).2.2.1 && Nat.ble ((st.drop (xmd x.2.2.1).2.2.2.2.2.1).map fun v => v.category).sum 8 &&
  (match (xmd x.2.2.1).2.2.2.2.1 with
    | 1 => (match xargs (xmd x.2.2.1).2.2.2.2.2.1 st with
      | .ref h :: _ => (match M.1[h]? with | some (.inr (ci, _)) => Nat.beq ci x.2.2.2.1 | _ => false)
      | _ => false)
    | 2 => (match xargs (xmd x.2.2.1).2.2.2.2.2.1 st with | .ref _ :: _ => true | _ => false)
    | 0 => true
    | 3 => true
    | _ => false)
def xexec (S : Nat × (Nat → Int32)) : Nat → Nat → Nat → xF → xM → Option xR
  | 0, _, _, _, _ => none
  | n + 1, d, i, F, M => match xcod i F.1 with
    | none => none
    | some x => match xkd x with
      | 0 => (match xone S x F M with
        | some r => xexec S n d i r.1 r.2
        | none => none)
      | 1 => (match xret (xmd i).2.2.2.1 x.1 F.2.2 with
        | some v => some (.inr v, M)
        | none => none)
      | 2 => (match d with
        | 0 => none
        | d' + 1 => bif xmay x F.2.2 M then
            (match xexec S n d' x.2.2.1 (0, xent (xmd x.2.2.1).2.2.1 (xargs (xmd x.2.2.1).2.2.2.2.2.1 F.2.2), []) M with
            | none => none
            | some (.inr v, M') => xexec S n (d' + 1) i (F.1 + 3, F.2.1, v.toList ++ F.2.2.drop (xmd x.2.2.1).2.2.2.2.2.1) M'
            | some (.inl e, M') => (match (xmd i).2.2.2.2.2.2 with
              | [] => some (.inl e, M')
              | _ => (match xcatch i F e with
                | none => none
                | some F' => xexec S n (d' + 1) i F' M')))
          else none)
      | 3 => bif xsm F.2.2 then some (.inl (x.2.2.1 - 2000), (M.1, M.2.1, M.2.2.1 + 1, M.2.2.2 + 6)) else none
      | _ => none
