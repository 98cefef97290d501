/-! The blocks are the bytes' own: translation and its check. -/
def eOwn (e : ME) : Nat := e.1.1
def eY (e : ME) : MethodName := e.1.2.1
def eB (e : ME) : ByteArray := e.1.2.2
def eL (e : ME) : Nat := e.2.1.1
def eT (e : ME) : Nat := e.2.1.2.1
def eSt (e : ME) : Nat := e.2.1.2.2.1
def eN (e : ME) : Nat := e.2.1.2.2.2
def ePcs (e : ME) : List Nat := e.2.2.1
def eBs (e : ME) : List (List XI) := e.2.2.2
def eRet (e : ME) : Option FieldType := match eT e with
  | 0 => none
  | 1 => some .int
  | 2 => some .boolean
  | _ => some .long
def xtg (pcs : List Nat) (pc : Nat) (off : Int) : Option Nat := pcs.findIdx? (fun (p : Nat) => decide (((pc : Int) + off) = (p : Int)))
def xln (len n : Nat) (x : XI) : Option XI := if len = n then some x else none
def xtgs (pcs : List Nat) (pc : Nat) : List Int → Option (List Int)
  | [] => some []
  | a :: r => match xtg pcs pc a, xtgs pcs pc r with
    | some b, some s => some ((b : Int) :: s)
    | _, _ => none
/-- a real instruction of own class o (answer sort rt, ini: in a constructor), as the interpreter has it -/
def xtr (o rt : Nat) (ini : Bool) (pcs : List Nat) (pc : Nat) (ri : Instr) (len : Nat) : Option XI :=
  match ri with
  | .iconst n => xln len 1 (.iconst n, 0)
  | .bipush n => xln len 2 (.iconst (Int8.ofInt n).toInt32.toInt, 0)
  | .sipush n => xln len 3 (.iconst (Int16.ofInt n).toInt32.toInt, 0)
  | .lconst n => xln len 1 (.sipush (n.val : Int), 0)
  | .aconst_null => xln len 1 (.aconst_null, 0)
  | .iload i => xln len 2 (.iload i, 0)
  | .lload i => xln len 2 (.lload i, 0)
  | .aload i => xln len 2 (.aload i, 0)
  | .iload_n i => xln len 1 (.iload i.val, 0)
  | .lload_n i => xln len 1 (.lload i.val, 0)
  | .aload_n i => xln len 1 (.aload i.val, 0)
  | .istore i => xln len 2 (.istore i, 0)
  | .astore i => xln len 2 (.astore i, 0)
  | .istore_n i => xln len 1 (.istore i.val, 0)
  | .astore_n i => xln len 1 (.astore i.val, 0)
  | .lstore i => xln len 2 (.lstore i, 0)
  | .lstore_n i => xln len 1 (.lstore i.val, 0)
  | .iinc i n => xln len 3 (.iinc i n, 0)
  | .iadd => xln len 1 (.iadd, 0)
  | .isub => xln len 1 (.isub, 0)
  | .imul => xln len 1 (.imul, 0)
  | .idiv => xln len 1 (.idiv, 0)
  | .irem => xln len 1 (.irem, 0)
  | .iand => xln len 1 (.iand, 0)
  | .ior => xln len 1 (.ior, 0)
  | .ixor => xln len 1 (.ixor, 0)
  | .ishl => xln len 1 (.ishl, 0)
  | .ishr => xln len 1 (.ishr, 0)
  | .iushr => xln len 1 (.iushr, 0)
  | .ladd => xln len 1 (.ladd, 0)
  | .lsub => xln len 1 (.lsub, 0)
  | .lmul => xln len 1 (.lmul, 0)
  | .ldiv => xln len 1 (.ldiv, 0)
  | .lrem => xln len 1 (.lrem, 0)
  | .land => xln len 1 (.land, 0)
  | .lor => xln len 1 (.lor, 0)
  | .lshl => xln len 1 (.lshl, 0)
  | .lushr => xln len 1 (.lushr, 0)
  | .lcmp => xln len 1 (.lcmp, 0)
  | .i2l => xln len 1 (.i2l, 0)
  | .l2i => xln len 1 (.l2i, 0)
  | .i2b => xln len 1 (.i2b, 0)
  | .dup => xln len 1 (.dup, 0)
  | .dup2 => xln len 1 (.dup2, 0)
  | .pop => xln len 1 (.pop, 0)
  | .pop2 => xln len 1 (.pop2, 0)
  | .goto off => match xtg pcs pc off with
    | some b => xln len 3 (.goto (b : Int), 0)
    | none => none
  | .if_icmp c off => match xtg pcs pc off with
    | some b => xln len 3 (.if_icmp c (b : Int), 0)
    | none => none
  | .ifCond c off => match xtg pcs pc off with
    | some b => xln len 3 (.ifCond c (b : Int), 0)
    | none => none
  | .ifnull off => match xtg pcs pc off with
    | some b => xln len 3 (.ifnull (b : Int), 0)
    | none => none
  | .ifnonnull off => match xtg pcs pc off with
    | some b => xln len 3 (.ifnonnull (b : Int), 0)
    | none => none
  | .tableswitch d lo hi offs => match xtg pcs pc d, xtgs pcs pc offs.toList with
    | some b, some bs => some (.tableswitch (b : Int) lo hi bs.toArray, 0)
    | _, _ => none
  | .getfield idx => match xlu xFt o idx with
    | some (ci, k, _) => if k < Nx ci ∧ ci < 12 then match tyx ci k with
      | .int => xln len 3 (.getfield ci, k)
      | .boolean => xln len 3 (.getfield ci, k)
      | .long => xln len 3 (.getstatic ci, k)
      | .object _ => xln len 3 (.checkcast ci, k)
      | .array _ => xln len 3 (.checkcast ci, k)
      | _ => none else none
    | none => none
  | .putfield idx => match xlu xFt o idx with
    | some (ci, k, nest) => if k < Nx ci ∧ ci < 12 ∧ ((Tx ci k).2.2.2 = false ∨ (ini = true ∧ o = ci ∧ nest = 0)) then match tyx ci k with
      | .int => xln len 3 (.putfield ci, k)
      | .boolean => xln len 3 (.ret ci, k)
      | .long => xln len 3 (.putstatic ci, k)
      | .object _ => xln len 3 (.instanceof ci, k)
      | .array _ => xln len 3 (.instanceof ci, k)
      | _ => none else none
    | none => none
  | .invokestatic idx => match xlu xMt o idx with
    | some (k, _) => if eSt (mOf k) = 0 ∨ k = 274 ∨ k = 83 then xln len 3 (.invokestatic k, eN (mOf k)) else none
    | none => none
  | .invokevirtual idx => match xlu xMt o idx with
    | some (k, _) => if eSt (mOf k) = 1 then xln len 3 (.invokeinterface k (eN (mOf k)), eOwn (mOf k)) else none
    | none => none
  | .invokespecial idx => match xlu xMt o idx with
    | some (k, _) => if k = 999 then xln len 3 (.monitorexit, 0) else if eSt (mOf k) = 2 then xln len 3 (.invokeinterface k (eN (mOf k)), eOwn (mOf k)) else none
    | none => none
  | .new idx => match xlu xCt o idx with
    | some ci => if ci < 12 then xln len 3 (.new ci, Nx ci) else none
    | none => none
  | .newarray t => xln len 2 (.newarray t, 0)
  | .anewarray idx => match xlu xCt o idx with
    | some ci => if ci = 8 then xln len 3 (.anewarray 8, 0) else none
    | none => none
  | .ldc idx => match xlu xKt o idx with
    | some (v, t) => if t = 0 then xln len 2 (.iconst v, 0) else none
    | none => match xlu xSt o idx with
      | some j => xln len 2 (.ldc j, 0)
      | none => none
  | .ldc_w idx => match xlu xKt o idx with
    | some (v, t) => if t = 0 then xln len 3 (.iconst v, 0) else none
    | none => none
  | .ldc2_w idx => match xlu xKt o idx with
    | some (v, t) => if t = 1 then xln len 3 (.sipush v, 0) else none
    | none => none
  | .arraylength => xln len 1 (.arraylength, 0)
  | .iaload => xln len 1 (.iaload, 0)
  | .baload => xln len 1 (.baload, 0)
  | .laload => xln len 1 (.laload, 0)
  | .aaload => xln len 1 (.aaload, 0)
  | .iastore => xln len 1 (.iastore, 0)
  | .bastore => xln len 1 (.bastore, 0)
  | .lastore => xln len 1 (.lastore, 0)
  | .aastore => xln len 1 (.aastore, 0)
  | .ireturn => if rt = 1 then xln len 1 (.ireturn, 0) else if rt = 2 then xln len 1 (.ireturn, 1) else none
  | .lreturn => if rt = 3 then xln len 1 (.lreturn, 0) else none
  | .return_ => if rt = 0 then xln len 1 (.return_, 0) else none
  | _ => none
def xchk (o rt : Nat) (ini : Bool) (bytes : ByteArray) (pcs : List Nat) : Nat → List XI → Bool
  | _, [] => true
  | pc, x :: is => match x with
    | (.jsr b, _) => decide (pcs[b.toNat]? = some pc)
    | _ => match decode bytes pc with
      | .ok (ri, len) => decide (xtr o rt ini pcs pc ri len = some x) && xchk o rt ini bytes pcs (pc + len) is
      | .error _ => false
def xchkB (o rt : Nat) (ini : Bool) (bytes : ByteArray) (pcs : List Nat) : List Nat → List (List XI) → Bool
  | [], [] => true
  | p :: ps, b :: bs => xchk o rt ini bytes pcs p b && xchkB o rt ini bytes pcs ps bs
  | _, _ => false
def chkE (e : ME) : Bool := xchkB (eOwn e) (eT e) (eSt e == 2) (eB e) (ePcs e) (ePcs e) (eBs e)

set_option maxRecDepth 100000 in
theorem ck0 : mt0.all chkE = true := by decide +kernel
set_option maxRecDepth 100000 in
theorem ck1 : mt1.all chkE = true := by decide +kernel
set_option maxRecDepth 100000 in
theorem ck2 : mt2.all chkE = true := by decide +kernel
set_option maxRecDepth 100000 in
theorem ck3 : mt3.all chkE = true := by decide +kernel
set_option maxRecDepth 100000 in
theorem ck4 : mt4.all chkE = true := by decide +kernel
set_option maxRecDepth 100000 in
theorem ck5 : mt5.all chkE = true := by decide +kernel
set_option maxRecDepth 100000 in
theorem ck6 : mt6.all chkE = true := by decide +kernel
set_option maxRecDepth 100000 in
theorem ck7 : mt7.all chkE = true := by decide +kernel
set_option maxRecDepth 100000 in
theorem ck8 : mt8.all chkE = true := by decide +kernel
set_option maxRecDepth 100000 in
theorem ck9 : mt9.all chkE = true := by decide +kernel
set_option maxRecDepth 100000 in
theorem ck10 : mt10.all chkE = true := by decide +kernel
set_option maxRecDepth 100000 in
theorem ck11 : mt11.all chkE = true := by decide +kernel
set_option maxRecDepth 100000 in
theorem ck12 : mt12.all chkE = true := by decide +kernel
