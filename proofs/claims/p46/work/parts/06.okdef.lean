/-! The code tables are the bytecode: each entry against the decoder and the tables' words. -/
def xXic : List Nat := [106, 117, 217, 165, 274, 335]
def xChN : MethodName := ⟨"java/lang/String", "charAt", "(I)C"⟩
def xNw (w : Cond) : Bool := match w with
  | .methodLinkNest _ _ _ _ => true
  | .fieldLinkNest _ _ _ _ _ _ => true
  | _ => false
def xStr (w : Cond) : Bool := match w with
  | .stringRef _ _ _ => true
  | _ => false
def xat (w : Nat) (c : Cond) : Bool := decide (lw_tbl[w]? = some c)
def xtyA : Nat → FieldType
  | 0 => .int
  | 1 => .long
  | 2 => .boolean
  | _ => .char
def xfl (i : Nat) (idx : Nat) (x : xI) : Bool := match xCl[x.2.2.1]? with
  | some (_, T, N) => Nat.blt x.2.2.2.1 N && (match x.2.2.2.2.2 with
    | .null => xat x.2.2.2.2.1 (.fieldLink (xmd i).1.cls idx (T x.2.2.2.1).1 (T x.2.2.2.1).2.1 (T x.2.2.2.1).2.2.1)
    | _ => xat x.2.2.2.2.1 (.fieldLinkNest (xmd i).1.cls idx (T x.2.2.2.1).1 (T x.2.2.2.1).2.1 (T x.2.2.2.1).2.2.1 "CheckmarkOffice"))
  | none => false
def xfin (i : Nat) (x : xI) : Bool := match xCl[x.2.2.1]? with
  | some (_, T, _) => !(T x.2.2.2.1).2.2.2 || (decide ((xmd i).1.name = "<init>") && decide ((T x.2.2.2.1).1 = (xmd i).1.cls) && decide (x.2.2.2.2.2 = .null))
  | none => false
def xmlk (i : Nat) (idx : Nat) (x : xI) : Bool := Nat.blt x.2.2.1 178 && (match x.2.2.2.2.2 with
  | .null => xat x.2.2.2.2.1 (.methodLink (xmd i).1.cls idx (xmd x.2.2.1).1)
  | _ => xat x.2.2.2.2.1 (.methodLinkNest (xmd i).1.cls idx (xmd x.2.2.1).1 "CheckmarkOffice"))
def xthr (i pc : Nat) (idx : Nat) (x : xI) : Bool :=
  decide ((xmd i).1.cls = RX11) && Nat.blt (x.2.2.1 - 2000) 6 && xat x.2.2.2.2.1 (.classLink RX11 idx (xExc.getD (x.2.2.1 - 2000) "")) && lw_tbl.any (fun w => match w with | .stringRef o k _ => decide (o = RX11) && Nat.beq k x.2.2.2.1 | _ => false) &&
  decide (decode (xmd i).2.1 (pc + 3) = .ok (.dup, 1)) && (match x.2.2.2.2.2 with
    | .int 0 => decide (decode (xmd i).2.1 (pc + 4) = .ok (.ldc x.2.2.2.1, 2)) && decide (decode (xmd i).2.1 (pc + 6) = .ok (.invokespecial (xXic.getD (x.2.2.1 - 2000) 0), 3)) && decide (decode (xmd i).2.1 (pc + 9) = .ok (.athrow, 1))
    | .int 1 => decide (decode (xmd i).2.1 (pc + 4) = .ok (.ldc_w x.2.2.2.1, 3)) && decide (decode (xmd i).2.1 (pc + 7) = .ok (.invokespecial (xXic.getD (x.2.2.1 - 2000) 0), 3)) && decide (decode (xmd i).2.1 (pc + 10) = .ok (.athrow, 1))
    | _ => false) && (xmd i).2.2.2.2.2.2.isEmpty
def xokP (i pc : Nat) (x : xI) : Bool := match x.1 with
  | .iconst n => decide (x.2.1 = 1) && decide (x.2.2.2.2.2 = .int (Int32.ofInt n))
  | .bipush n => decide (x.2.1 = 2) && decide (x.2.2.2.2.2 = .int (Int8.ofInt n).toInt32)
  | .sipush n => decide (x.2.1 = 3) && decide (x.2.2.2.2.2 = .int (Int16.ofInt n).toInt32)
  | .lconst n => decide (x.2.1 = 1) && decide (x.2.2.2.2.2 = .long (Int64.ofNat n.val))
  | .ldc2_w idx => decide (x.2.1 = 3) && (match x.2.2.2.2.2 with | .long c => xat x.2.2.2.2.1 (.constantLong (xmd i).1.cls idx c) | _ => false)
  | .ldc idx => decide (x.2.1 = 2) && (Nat.beq x.2.2.1 1 || (Nat.beq x.2.2.1 2 && decide ((xmd i).1.cls = RL) && Nat.beq idx 164) || (Nat.beq x.2.2.1 0 && match x.2.2.2.2.2 with | .int c => xat x.2.2.2.2.1 (.constant (xmd i).1.cls idx c) | _ => false))
  | .ldc_w idx => decide (x.2.1 = 3) && (Nat.beq x.2.2.1 1 || (match x.2.2.2.2.2 with | .int c => xat x.2.2.2.2.1 (.constant (xmd i).1.cls idx c) | _ => false))
  | .iload k => decide (x.2.1 = 2) && decide (x.2.2.1 = k)
  | .lload k => decide (x.2.1 = 2) && decide (x.2.2.1 = k)
  | .aload k => decide (x.2.1 = 2) && decide (x.2.2.1 = k)
  | .iload_n k => decide (x.2.1 = 1) && decide (x.2.2.1 = k.val)
  | .lload_n k => decide (x.2.1 = 1) && decide (x.2.2.1 = k.val)
  | .aload_n k => decide (x.2.1 = 1) && decide (x.2.2.1 = k.val)
  | .istore k => decide (x.2.1 = 2) && decide (x.2.2.1 = k) && decide (k < (xmd i).2.2.1)
  | .lstore k => decide (x.2.1 = 2) && decide (x.2.2.1 = k) && decide (k + 1 < (xmd i).2.2.1)
  | .astore k => decide (x.2.1 = 2) && decide (x.2.2.1 = k) && decide (k < (xmd i).2.2.1)
  | .istore_n k => decide (x.2.1 = 1) && decide (x.2.2.1 = k.val) && decide (k.val < (xmd i).2.2.1)
  | .lstore_n k => decide (x.2.1 = 1) && decide (x.2.2.1 = k.val) && decide (k.val + 1 < (xmd i).2.2.1)
  | .astore_n k => decide (x.2.1 = 1) && decide (x.2.2.1 = k.val) && decide (k.val < (xmd i).2.2.1)
  | .iinc k c => decide (x.2.1 = 3) && decide (x.2.2.1 = k) && decide (k < (xmd i).2.2.1) && decide (x.2.2.2.2.2 = .int (Int32.ofInt c))
  | .ifCond _ off => decide (x.2.1 = 3) && decide ((pc : Int) + off = (x.2.2.1 : Int))
  | .if_icmp _ off => decide (x.2.1 = 3) && decide ((pc : Int) + off = (x.2.2.1 : Int))
  | .goto off => decide (x.2.1 = 3) && decide ((pc : Int) + off = (x.2.2.1 : Int))
  | .tableswitch d _ _ offs => decide (0 ≤ (pc : Int) + d) && offs.toList.all (fun off => decide (0 ≤ (pc : Int) + off))
  | .getfield idx => decide (x.2.1 = 3) && xfl i idx x
  | .putfield idx => decide (x.2.1 = 3) && xfl i idx x && xfin i x && decide (x.2.2.2.2.2 = .null)
  | .getstatic idx => decide (x.2.1 = 3) && (match x.2.2.1 with
    | 0 => xat x.2.2.2.2.1 (.fieldLink (xmd i).1.cls idx "CheckmarkOffice" "SCHEMES" "[C")
    | 1 => xat x.2.2.2.2.1 (.fieldLink (xmd i).1.cls idx "CheckmarkOffice$Schemes" "CHANGED" "[I")
    | _ => false)
  | .new idx => decide (x.2.1 = 3) && (bif Nat.ble 2000 x.2.2.1 then xthr i pc idx x else (match xCl[x.2.2.1]? with
    | some (C, _, _) => xat x.2.2.2.2.1 (.classLink (xmd i).1.cls idx C)
    | none => false))
  | .newarray t => decide (x.2.1 = 2) && decide (newarray.typeOf t = xtyA x.2.2.1) && Nat.blt x.2.2.1 4 && xat x.2.2.2.2.1 (.arrayClass (newarray.typeOf t))
  | .invokespecial idx => decide (x.2.1 = 3) && (bif Nat.ble 2000 x.2.2.1 then true else bif Nat.beq x.2.2.1 1000 then xat x.2.2.2.2.1 (.methodLink (xmd i).1.cls idx Lib.objectInit) else xmlk i idx x && Nat.beq (xmd x.2.2.1).2.2.2.2.1 2)
  | .invokestatic idx => decide (x.2.1 = 3) && (bif Nat.beq x.2.2.1 1001 then xat x.2.2.2.2.1 (.methodLink (xmd i).1.cls idx Lib.Math.max.name) else bif Nat.beq x.2.2.1 1002 then xat x.2.2.2.2.1 (.methodLink (xmd i).1.cls idx Lib.Math.min.name) else xmlk i idx x && (Nat.beq (xmd x.2.2.1).2.2.2.2.1 0 || (Nat.beq (xmd x.2.2.1).2.2.2.2.1 3 && decide (x.2.2.2.2.2 = .null))))
  | .invokevirtual idx => decide (x.2.1 = 3) && (bif Nat.beq x.2.2.1 1003 then xat x.2.2.2.2.1 (.methodLink (xmd i).1.cls idx xChN) else xmlk i idx x && Nat.beq (xmd x.2.2.1).2.2.2.2.1 1 && (match xCl[x.2.2.2.1]? with | some (C, _, _) => decide ((xmd x.2.2.1).1.cls = C) | none => false))
  | _ => decide (x.2.1 = 1)
def xokM (i : Nat) : Bool := match xmd i with
  | (y, bs, ml, rt, kd, na, hh) => Nat.ble ml 40 && plainName y.cls && decide (y.cls ≠ "java/lang/invoke/MethodHandle") && decide (y.cls ≠ "java/lang/invoke/VarHandle") &&
    (match kd with
    | 0 => xat (xwp i).1 (.code y bs ml rt) && xat (xwp i).2.1 (.static y) && xat (xwp i).2.2.2 (.initialized y.cls) && hh.isEmpty && decide ((parseMethodDescriptor y.desc).map (fun d => d.parameters.length) = some na)
    | 1 => xat (xwp i).1 (.code y bs ml rt) && xat (xwp i).2.1 (.instanceMethod y) && xat (xwp i).2.2.1 (.selects y.cls y y) && xat (xwp i).2.2.2 (.initialized y.cls) && hh.isEmpty && decide ((parseMethodDescriptor y.desc).map (fun d => d.parameters.length + 1) = some na)
    | 2 => xat (xwp i).1 (.code y bs ml rt) && xat (xwp i).2.1 (.instanceMethod y) && xat (xwp i).2.2.2 (.initialized y.cls) && hh.isEmpty && decide (rt = none) && decide (y.name = "<init>") && decide ((parseMethodDescriptor y.desc).map (fun d => d.parameters.length + 1) = some na)
    | 3 => xat (xwp i).1 (.codeWith y bs ml rt hh) && xat (xwp i).2.1 (.static y) && xat (xwp i).2.2.2 (.initialized y.cls) && !hh.isEmpty && hh.all (fun h => Nat.blt (xcat h.2.2.2) 6) && decide (y.cls = RL) && decide ((parseMethodDescriptor y.desc).map (fun d => d.parameters.length) = some na)
    | _ => hh.isEmpty)
def xokB (i lo n : Nat) : Bool := (List.range n).all (fun k => match xcod i (lo + k) with
  | none => true
  | some x => decide (decode (xmd i).2.1 (lo + k) = .ok (x.1, x.2.1)) && xokP i (lo + k) x)
def xokA (i : Nat) : Bool := xokM i && xokB i 0 (xsz i)
def xokQ (i : Nat) : Prop := xokM i = true ∧ ∀ (pc : Nat) (x : xI), xcod i pc = some x → decode (xmd i).2.1 pc = .ok (x.1, x.2.1) ∧ xokP i pc x = true
theorem xcod_lt {i pc : Nat} {x : xI} (h : xcod i pc = some x) : pc < xsz i := by
  unfold xcod at h
  cases hb : Nat.blt pc (xsz i) with
  | true => exact Nat.lt_of_lt_of_le (Nat.lt_succ_self _) (Nat.le_of_ble_eq_true hb)
  | false => rw [hb] at h; cases h
theorem xokB_use {i lo n : Nat} (h : xokB i lo n = true) {pc : Nat} (h1 : lo ≤ pc) (h2 : pc < lo + n) {x : xI} (hx : xcod i pc = some x) : decode (xmd i).2.1 pc = .ok (x.1, x.2.1) ∧ xokP i pc x = true := by
  have h3 := List.all_eq_true.mp h (pc - lo) (List.mem_range.mpr (by omega))
  rw [show lo + (pc - lo) = pc by omega, hx] at h3
  simp only [Bool.and_eq_true, decide_eq_true_eq] at h3
  exact h3
theorem xokA_use {i : Nat} (h : xokA i = true) : xokQ i := by
  unfold xokA at h
  simp only [Bool.and_eq_true] at h
  exact ⟨h.1, fun pc x hx => xokB_use h.2 (Nat.zero_le _) (by have := xcod_lt hx; omega) hx⟩
