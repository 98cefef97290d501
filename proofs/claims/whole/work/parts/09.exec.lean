/-! The interpreter: a pure machine over an abstract heap of typed two-dimensional maps. -/
/-- kinds, lengths, ints, longs, references; how many cells; counted cells and slots -/
abbrev Hp : Type := (Nat → Nat) × (Nat → Nat) × (Nat → Nat → Int32) × (Nat → Nat → Int64) × (Nat → Nat → Option Nat) × Nat × Nat × Nat
abbrev LL : Type := List (Option Value)
abbrev XR : Type := Option Value × Hp
def up2 {α : Type} (f : Nat → Nat → α) (a k : Nat) (v : α) : Nat → Nat → α := fun b j => if b = a ∧ j = k then v else f b j
def hK (h : Hp) : Nat → Nat := h.1
def hN (h : Hp) : Nat → Nat := h.2.1
def hI (h : Hp) : Nat → Nat → Int32 := h.2.2.1
def hL (h : Hp) : Nat → Nat → Int64 := h.2.2.2.1
def hR (h : Hp) : Nat → Nat → Option Nat := h.2.2.2.2.1
def hZ (h : Hp) : Nat := h.2.2.2.2.2.1
def hC (h : Hp) : Nat := h.2.2.2.2.2.2.1
def hS (h : Hp) : Nat := h.2.2.2.2.2.2.2
def sI (h : Hp) (a k : Nat) (v : Int32) : Hp := (h.1, h.2.1, up2 h.2.2.1 a k v, h.2.2.2)
def sL (h : Hp) (a k : Nat) (v : Int64) : Hp := (h.1, h.2.1, h.2.2.1, up2 h.2.2.2.1 a k v, h.2.2.2.2)
def sR (h : Hp) (a k : Nat) (v : Option Nat) : Hp := (h.1, h.2.1, h.2.2.1, h.2.2.2.1, up2 h.2.2.2.2.1 a k v, h.2.2.2.2.2)
/-- a new cell: its kind, length, slots -/
def hNew (h : Hp) (kd n sl : Nat) : Hp :=
  (va_up (hK h) (hZ h) kd, va_up (hN h) (hZ h) n, (fun b j => if b = hZ h then 0 else hI h b j), (fun b j => if b = hZ h then 0 else hL h b j), (fun b j => if b = hZ h then none else hR h b j), hZ h + 1, hC h + 1, hS h + sl)
/-- a cell that isn't kept, but counted -/
def hPay (h : Hp) (c sl : Nat) : Hp := (h.1, h.2.1, h.2.2.1, h.2.2.2.1, h.2.2.2.2.1, h.2.2.2.2.2.1, hC h + c, hS h + sl)
def isL (v : Option Value) : Bool := match v with
  | some (.long _) => true
  | some (.double _) => true
  | _ => false
def lget (ls : LL) (i : Nat) : Option Value := match ls[i]? with
  | some (some v) => some v
  | _ => none
def lset1 : LL → Nat → Value → LL
  | [], _, _ => []
  | _ :: xs, 0, v => some v :: xs
  | x :: xs, i + 1, v => (if i = 0 ∧ isL x = true then none else x) :: lset1 xs i v
def lclr : LL → Nat → LL
  | [], _ => []
  | _ :: xs, 0 => none :: xs
  | x :: xs, i + 1 => x :: lclr xs i
def catS : List Value → Nat
  | [] => 0
  | v :: vs => v.category + catS vs
def largs : List Value → LL
  | [] => []
  | v :: vs => if v.category = 2 then some v :: none :: largs vs else some v :: largs vs
def linit (n : Nat) (args : List Value) : LL := largs args ++ List.replicate (n - (largs args).length) none
/-- the next state -/
abbrev XN : Type := Option ((List XI × LL × List Value × Hp) ⊕ XR)
def xgo (is : List XI) (ls : LL) (st : List Value) (h : Hp) : XN := some (.inl (is, ls, st, h))
def x2i (f : Int32 → Int32 → Int32) (is : List XI) (ls : LL) (st : List Value) (h : Hp) : XN := match st with
  | .int y :: .int x :: r => xgo is ls (.int (f x y) :: r) h
  | _ => none
def x2l (f : Int64 → Int64 → Int64) (is : List XI) (ls : LL) (st : List Value) (h : Hp) : XN := match st with
  | .long y :: .long x :: r => xgo is ls (.long (f x y) :: r) h
  | _ => none
def xcmp (c : Jvm.ClassFile.Cond) (x y : Int32) : Prop := match c with
  | .eq => x = y
  | .ne => ¬ x = y
  | .lt => x < y
  | .ge => y ≤ x
  | .gt => y < x
  | .le => x ≤ y
def xdec (c : Jvm.ClassFile.Cond) (x y : Int32) : Bool := match c with
  | .eq => decide (x = y)
  | .ne => !decide (x = y)
  | .lt => decide (x < y)
  | .ge => decide (y ≤ x)
  | .gt => decide (y < x)
  | .le => decide (x ≤ y)
theorem xdec_iff (c : Jvm.ClassFile.Cond) (x y : Int32) : xdec c x y = true ↔ xcmp c x y := by
  cases c <;> simp [xdec, xcmp]
/-- an index within, decided -/
def xin (i : Int32) (n : Nat) : Bool := !(decide (i < 0) || decide (n ≤ i.toNatClampNeg))
theorem xin_iff (i : Int32) (n : Nat) : xin i n = true ↔ vp_in i n := by
  simp [xin, vp_in]
def SCR : Nat := 1000000
/-- kinds of arrays -/
def KI : Nat := 20
def KB : Nat := 21
def KZ : Nat := 22
def KJ : Nat := 23
def KT : Nat := 24
def akind (t : ArrayType) : Nat := match t with
  | .int => KI
  | .byte => KB
  | .boolean => KZ
  | .long => KJ
  | _ => 0
def xStep (cf : Nat → List Value → Hp → Option XR) (scr : Option (Nat × (Nat → Int32))) (B : Nat → List XI) (x : XI) (is : List XI) (ls : LL) (st : List Value) (h : Hp) : XN :=
  match x.1 with
  | .iconst n => xgo is ls (.int (Int32.ofInt n) :: st) h
  | .sipush n => xgo is ls (.long (Int64.ofInt n) :: st) h
  | .aconst_null => xgo is ls (.null :: st) h
  | .ldc j => xgo is ls (.ref (SCR + j) :: st) h
  | .iload i => match lget ls i with
    | some (.int v) => xgo is ls (.int v :: st) h
    | _ => none
  | .lload i => match lget ls i with
    | some (.long v) => xgo is ls (.long v :: st) h
    | _ => none
  | .aload i => match lget ls i with
    | some (.ref v) => xgo is ls (.ref v :: st) h
    | some .null => xgo is ls (.null :: st) h
    | _ => none
  | .istore i => match st with
    | .int v :: r => if i < ls.length then xgo is (lset1 ls i (.int v)) r h else none
    | _ => none
  | .astore i => match st with
    | .ref v :: r => if i < ls.length then xgo is (lset1 ls i (.ref v)) r h else none
    | .null :: r => if i < ls.length then xgo is (lset1 ls i .null) r h else none
    | _ => none
  | .lstore i => match st with
    | .long v :: r => if i + 1 < ls.length then xgo is (lclr (lset1 ls i (.long v)) (i + 1)) r h else none
    | _ => none
  | .iinc i n => match lget ls i with
    | some (.int v) => if i < ls.length then xgo is (lset1 ls i (.int (v + Int32.ofInt n))) st h else none
    | _ => none
  | .iadd => x2i (· + ·) is ls st h
  | .isub => x2i (· - ·) is ls st h
  | .imul => x2i (· * ·) is ls st h
  | .iand => x2i (· &&& ·) is ls st h
  | .ior => x2i (· ||| ·) is ls st h
  | .ixor => x2i (· ^^^ ·) is ls st h
  | .ishl => x2i (fun x y => x <<< (y &&& 31)) is ls st h
  | .ishr => x2i (fun x y => x >>> (y &&& 31)) is ls st h
  | .iushr => x2i (fun x y => (x.toUInt32 >>> (y.toUInt32 &&& Int32.toUInt32 31)).toInt32) is ls st h
  | .idiv => match st with
    | .int y :: .int x :: r => if y = 0 then none else xgo is ls (.int (x / y) :: r) h
    | _ => none
  | .irem => match st with
    | .int y :: .int x :: r => if y = 0 then none else xgo is ls (.int (x - x / y * y) :: r) h
    | _ => none
  | .ladd => x2l (· + ·) is ls st h
  | .lsub => x2l (· - ·) is ls st h
  | .lmul => x2l (· * ·) is ls st h
  | .land => x2l (· &&& ·) is ls st h
  | .lor => x2l (· ||| ·) is ls st h
  | .lshl => match st with
    | .int y :: .long x :: r => xgo is ls (.long (x <<< (y.toInt64 &&& 63)) :: r) h
    | _ => none
  | .lushr => match st with
    | .int y :: .long x :: r => xgo is ls (.long ((x.toUInt64 >>> (y.toInt64.toUInt64 &&& Int64.toUInt64 63)).toInt64) :: r) h
    | _ => none
  | .ldiv => match st with
    | .long y :: .long x :: r => if y = 0 then none else xgo is ls (.long (x / y) :: r) h
    | _ => none
  | .lrem => match st with
    | .long y :: .long x :: r => if y = 0 then none else xgo is ls (.long (x - x / y * y) :: r) h
    | _ => none
  | .lcmp => match st with
    | .long y :: .long x :: r => xgo is ls (.int (lg_cmp x y) :: r) h
    | _ => none
  | .i2l => match st with
    | .int x :: r => xgo is ls (.long x.toInt64 :: r) h
    | _ => none
  | .l2i => match st with
    | .long x :: r => xgo is ls (.int x.toInt32 :: r) h
    | _ => none
  | .i2b => match st with
    | .int x :: r => xgo is ls (.int x.toInt8.toInt32 :: r) h
    | _ => none
  | .dup => match st with
    | v :: r => if v.category = 1 then xgo is ls (v :: v :: r) h else none
    | _ => none
  | .dup2 => match st with
    | .long v :: r => xgo is ls (.long v :: .long v :: r) h
    | v :: w :: r => if v.category = 1 ∧ w.category = 1 then xgo is ls (v :: w :: v :: w :: r) h else none
    | _ => none
  | .pop => match st with
    | v :: r => if v.category = 1 then xgo is ls r h else none
    | _ => none
  | .pop2 => match st with
    | .long _ :: r => xgo is ls r h
    | _ => none
  | .goto b => xgo (B b.toNat) ls st h
  | .jsr b => xgo (B b.toNat) ls st h
  | .if_icmp c b => match st with
    | .int y :: .int x :: r => if xdec c x y = true then xgo (B b.toNat) ls r h else xgo is ls r h
    | _ => none
  | .ifCond c b => match st with
    | .int x :: r => if xdec c x 0 = true then xgo (B b.toNat) ls r h else xgo is ls r h
    | _ => none
  | .ifnull b => match st with
    | .null :: r => xgo (B b.toNat) ls r h
    | .ref _ :: r => xgo is ls r h
    | _ => none
  | .ifnonnull b => match st with
    | .null :: r => xgo is ls r h
    | .ref _ :: r => xgo (B b.toNat) ls r h
    | _ => none
  | .tableswitch d lo hi offs => match st with
    | .int v :: r => if v.toInt < lo ∨ hi < v.toInt then xgo (B d.toNat) ls r h else match offs[(v.toInt - lo).toNat]? with
      | some b => xgo (B b.toNat) ls r h
      | none => none
    | _ => none
  | .getfield ci => match st with
    | .ref a :: r => if hK h a = ci + 1 then xgo is ls (.int (hI h a x.2) :: r) h else none
    | _ => none
  | .getstatic ci => match st with
    | .ref a :: r => if hK h a = ci + 1 then xgo is ls (.long (hL h a x.2) :: r) h else none
    | _ => none
  | .checkcast ci => match st with
    | .ref a :: r => if hK h a = ci + 1 then xgo is ls (va_rf (hR h a x.2) :: r) h else none
    | _ => none
  | .putfield ci => match st with
    | .int v :: .ref a :: r => if hK h a = ci + 1 then xgo is ls r (sI h a x.2 v) else none
    | _ => none
  | .ret ci => match st with
    | .int v :: .ref a :: r => if hK h a = ci + 1 ∧ (v = 0 ∨ v = 1) then xgo is ls r (sI h a x.2 v) else none
    | _ => none
  | .putstatic ci => match st with
    | .long v :: .ref a :: r => if hK h a = ci + 1 then xgo is ls r (sL h a x.2 v) else none
    | _ => none
  | .instanceof ci => match st with
    | .ref v :: .ref a :: r => if hK h a = ci + 1 then xgo is ls r (sR h a x.2 (some v)) else none
    | _ => none
  | .new ci => if SCR ≤ hZ h then none else xgo is ls (.ref (hZ h) :: st) (hNew h (ci + 1) 0 x.2)
  | .newarray t => match st with
    | .int n :: r => if SCR ≤ hZ h ∨ n < 0 ∨ 8000 < n.toNatClampNeg ∨ akind t = 0 then none else xgo is ls (.ref (hZ h) :: r) (hNew h (akind t) n.toNatClampNeg n.toNatClampNeg)
    | _ => none
  | .anewarray _ => match st with
    | .int n :: r => if SCR ≤ hZ h ∨ n < 0 ∨ 8000 < n.toNatClampNeg then none else xgo is ls (.ref (hZ h) :: r) (hNew h KT n.toNatClampNeg n.toNatClampNeg)
    | _ => none
  | .arraylength => match st with
    | .ref a :: r => if KI ≤ hK h a ∧ hK h a ≤ KT then xgo is ls (.int (Int32.ofNat (hN h a)) :: r) h else if a = SCR then (match scr with
      | some q => xgo is ls (.int (Int32.ofNat q.1) :: r) h
      | none => none) else none
    | _ => none
  | .iaload => match st with
    | .int i :: .ref a :: r => if hK h a = KI then (if xin i (hN h a) = true then xgo is ls (.int (hI h a i.toNatClampNeg) :: r) h else none) else if a = SCR then (match scr with
      | some q => if xin i q.1 = true then xgo is ls (.int (q.2 i.toNatClampNeg) :: r) h else none
      | none => none) else none
    | _ => none
  | .baload => match st with
    | .int i :: .ref a :: r => if (hK h a = KB ∨ hK h a = KZ) ∧ xin i (hN h a) = true then xgo is ls (.int (hI h a i.toNatClampNeg) :: r) h else none
    | _ => none
  | .laload => match st with
    | .int i :: .ref a :: r => if hK h a = KJ ∧ xin i (hN h a) = true then xgo is ls (.long (hL h a i.toNatClampNeg) :: r) h else none
    | _ => none
  | .aaload => match st with
    | .int i :: .ref a :: r => if hK h a = KT ∧ xin i (hN h a) = true then xgo is ls (va_rf (hR h a i.toNatClampNeg) :: r) h else none
    | _ => none
  | .iastore => match st with
    | .int v :: .int i :: .ref a :: r => if hK h a = KI ∧ xin i (hN h a) = true then xgo is ls r (sI h a i.toNatClampNeg v) else none
    | _ => none
  | .bastore => match st with
    | .int v :: .int i :: .ref a :: r => if xin i (hN h a) = true then (if hK h a = KB then xgo is ls r (sI h a i.toNatClampNeg (vp_nar .byte v)) else if hK h a = KZ then xgo is ls r (sI h a i.toNatClampNeg (vp_nar .boolean v)) else none) else none
    | _ => none
  | .lastore => match st with
    | .long v :: .int i :: .ref a :: r => if hK h a = KJ ∧ xin i (hN h a) = true then xgo is ls r (sL h a i.toNatClampNeg v) else none
    | _ => none
  | .aastore => match st with
    | .ref v :: .int i :: .ref a :: r => if hK h a = KT ∧ hK h v = 9 ∧ xin i (hN h a) = true then xgo is ls r (sR h a i.toNatClampNeg (some v)) else none
    | _ => none
  | .invokestatic k => if catS (st.drop x.2) ≤ 8 ∧ x.2 ≤ st.length then (match cf k (st.take x.2).reverse h with
    | some (v, h1) => xgo is ls (v.toList ++ st.drop x.2) h1
    | none => none) else none
  | .invokeinterface k n => if catS (st.drop n) ≤ 8 ∧ n ≤ st.length then (match (st.take n).reverse with
    | .ref a :: vs => if hK h a = x.2 + 1 then (match cf k (.ref a :: vs) h with
      | some (v, h1) => xgo is ls (v.toList ++ st.drop n) h1
      | none => none) else none
    | _ => none) else none
  | .monitorexit => match st with
    | .ref _ :: r => if catS r ≤ 8 then xgo is ls r h else none
    | _ => none
  | .ireturn => match st with
    | [.int v] => if x.2 = 0 ∨ v = 0 ∨ v = 1 then some (.inr (some (.int v), h)) else none
    | _ => none
  | .lreturn => match st with
    | [.long v] => some (.inr (some (.long v), h))
    | _ => none
  | .return_ => match st with
    | [] => some (.inr (none, h))
    | _ => none
  | _ => none
def xRun (cf : Nat → List Value → Hp → Option XR) (scr : Option (Nat × (Nat → Int32))) (B : Nat → List XI) : Nat → List XI → LL → List Value → Hp → Option XR
  | 0, _, _, _, _ => none
  | _ + 1, [], _, _, _ => none
  | n + 1, x :: is, ls, st, h => match xStep cf scr B x is ls st h with
    | none => none
    | some (.inl q) => xRun cf scr B n q.1 q.2.1 q.2.2.1 q.2.2.2
    | some (.inr r) => some r
/-- isAmong(text, sign) -/
def pAmong (args : List Value) (h : Hp) : Option XR := match args with
  | [.ref a, .int v] => if a = SCR + 1 then some (some (.int (if v = 121 then 1 else 0)), h) else if a = SCR + 2 then some (some (.int (if v = 108 ∨ v = 100 ∨ v = 109 ∨ v = 110 ∨ v = 119 ∨ v = 116 then 1 else 0)), h) else none
  | _ => none
/-- the law's clause(x, law, face, out): the world behind, and one exception paid where it throws -/
def pClause (cf : Nat → List Value → Hp → Option XR) (kHas kOf : Nat) (args : List Value) (h : Hp) : Option XR := match args with
  | [.ref x, .int p0, .int p1, .ref o] => if hK h x = 11 ∧ hK h o = KJ ∧ 0 < hN h o then (match hR h x 6 with
    | some b => if hK h b = 1 then (match cf kHas [.ref b, .int p0, .int p1] h with
      | some (some (.int r), h1) => if r = 0 then some (some (.int 1), hPay h1 1 6) else if hK h1 x = 11 ∧ hR h1 x 6 = some b ∧ hK h1 b = 1 ∧ hK h1 o = KJ ∧ 0 < hN h1 o then (match cf kOf [.ref b, .int p0, .int p1] h1 with
        | some (some (.int v), h2) => if hK h2 o = KJ ∧ 0 < hN h2 o then some (some (.int 0), sL h2 o 0 v.toInt64) else none
        | _ => none) else none
      | _ => none) else none
    | none => none) else none
  | _ => none
/-- Math.max, min of longs, min of ints -/
def pMath (k : Nat) (args : List Value) (h : Hp) : Option XR := match args with
  | [.long x, .long y] => if k = 277 then some (some (.long (if y < x then x else y)), h) else if k = 279 then some (some (.long (if y < x then y else x)), h) else none
  | [.int x, .int y] => if k = 278 then some (some (.int (if y < x then y else x)), h) else none
  | _ => none
def xCall (N : Nat) : Nat → Nat → List Value → Hp → Option XR
  | 0, _, _, _ => none
  | d + 1, k, args, h => if k = 277 ∨ k = 278 ∨ k = 279 then pMath k args h else if k = 83 then pAmong args h else if k = 274 then pClause (xCall N d) 191 192 args h else if eY (mOf k) = yL_law ∨ eSt (mOf k) = 3 ∨ eL (mOf k) < (largs args).length ∨ args.length ≠ eN (mOf k) then none else xRun (xCall N d) none (blk k) N (blk k 0) (linit (eL (mOf k)) args) [] h
