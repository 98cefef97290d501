/-! The interpreter as a calculus: what a method, a place in a method comes to. Equations, to step by rewriting. -/
def cfLe (cf cf' : Nat → List Value → Hp → Option XR) : Prop := ∀ (k : Nat) (vs : List Value) (h : Hp) (r : XR), cf k vs h = some r → cf' k vs h = some r
def xLe {α : Type} (a b : Option α) : Prop := ∀ r, a = some r → b = some r
theorem xLe.rf {α : Type} (a : Option α) : xLe a a := fun _ h => h
theorem xStep_le {cf cf' : Nat → List Value → Hp → Option XR} {scr : Option (Nat × (Nat → Int32))} {B : Nat → List XI} {x : XI} {is : List XI} {ls : LL} {st : List Value} {h : Hp} (hcf : cfLe cf cf') : xLe (xStep cf scr B x is ls st h) (xStep cf' scr B x is ls st h) := by
  obtain ⟨i, k⟩ := x
  cases i <;> first
    | exact xLe.rf _
    | (intro r hr
       simp only [xStep] at hr ⊢
       split at hr
       · rename_i hc
         rw [if_pos hc]
         split at hr
         · rename_i v h1 hcall
           rw [hcf _ _ _ _ hcall]
           exact hr
         · cases hr
       · cases hr)
    | (intro r hr
       simp only [xStep] at hr ⊢
       split at hr
       · rename_i hc
         rw [if_pos hc]
         split at hr
         · split at hr
           · rename_i hk
             rw [if_pos hk]
             split at hr
             · rename_i v h1 hcall
               rw [hcf _ _ _ _ hcall]
               exact hr
             · cases hr
           · cases hr
         · cases hr
       · cases hr)
theorem xRun_le {cf cf' : Nat → List Value → Hp → Option XR} {scr : Option (Nat × (Nat → Int32))} {B : Nat → List XI} (hcf : cfLe cf cf') : ∀ (n n' : Nat) (is : List XI) (ls : LL) (st : List Value) (h : Hp), n ≤ n' → xLe (xRun cf scr B n is ls st h) (xRun cf' scr B n' is ls st h)
  | 0, _, _, _, _, _, _ => fun r hr => by simp [xRun] at hr
  | n + 1, 0, _, _, _, _, hn => by omega
  | n + 1, n' + 1, [], _, _, _, _ => fun r hr => by simp [xRun] at hr
  | n + 1, n' + 1, x :: is, ls, st, h, hn => fun r hr => by
    rw [xRun] at hr ⊢
    cases hs : xStep cf scr B x is ls st h with
    | none => rw [hs] at hr; cases hr
    | some q =>
      rw [hs] at hr
      rw [xStep_le hcf _ hs]
      cases q with
      | inl q => exact xRun_le hcf n n' _ _ _ _ (by omega) r hr
      | inr q => exact hr
theorem pClause_le {cf cf' : Nat → List Value → Hp → Option XR} (hcf : cfLe cf cf') (a b : Nat) (vs : List Value) (h : Hp) : xLe (pClause cf a b vs h) (pClause cf' a b vs h) := by
  intro r hr
  unfold pClause at hr ⊢
  split at hr
  · split at hr
    · rename_i hc
      rw [if_pos hc]
      split at hr
      · split at hr
        · rename_i hb
          rw [if_pos hb]
          split at hr
          · rename_i hcall
            rw [hcf _ _ _ _ hcall]
            dsimp only
            split at hr
            · rename_i h0
              rw [if_pos h0]
              exact hr
            · rename_i h0
              rw [if_neg h0]
              split at hr
              · rename_i h9
                rw [if_pos h9]
                split at hr
                · rename_i hcall2
                  rw [hcf _ _ _ _ hcall2]
                  exact hr
                · cases hr
              · cases hr
          · cases hr
        · cases hr
      · cases hr
    · cases hr
  · cases hr
theorem xCall_le {N N' : Nat} (hN : N ≤ N') : ∀ (d d' : Nat), d ≤ d' → cfLe (xCall N d) (xCall N' d')
  | 0, _, _ => fun k vs h r hr => by simp [xCall] at hr
  | d + 1, 0, hd => by omega
  | d + 1, d' + 1, hd => fun k vs h r hr => by
    have ih := xCall_le hN d d' (by omega)
    rw [xCall] at hr ⊢
    split at hr
    · rename_i q
      rw [if_pos q]; exact hr
    · rename_i q
      rw [if_neg q]
      split at hr
      · rename_i q
        rw [if_pos q]; exact hr
      · rename_i q
        rw [if_neg q]
        split at hr
        · rename_i q
          rw [if_pos q]; exact pClause_le ih _ _ _ _ _ hr
        · rename_i q
          rw [if_neg q]
          split at hr
          · cases hr
          · rename_i q
            rw [if_neg q]
            exact xRun_le ih _ _ _ _ _ _ hN _ hr
/-- method k on these, by at most D open calls, comes to what Q says -/
def Ev (D k : Nat) (vs : List Value) (h : Hp) (Q : Option Value → Hp → Prop) : Prop := ∃ N v h1, xCall N D k vs h = some (v, h1) ∧ Q v h1
/-- so does a place in the frame of method k -/
def Ex (sc : Option (Nat × (Nat → Int32))) (D k : Nat) (is : List XI) (ls : LL) (st : List Value) (h : Hp) (Q : Option Value → Hp → Prop) : Prop := ∃ N n v h1, xRun (xCall N D) sc (blk k) n is ls st h = some (v, h1) ∧ Q v h1
theorem Ev.mono {D D' k : Nat} {vs : List Value} {h : Hp} {Q : Option Value → Hp → Prop} (hd : D ≤ D') (he : Ev D k vs h Q) : Ev D' k vs h Q := by
  obtain ⟨N, v, h1, e, q⟩ := he
  exact ⟨N, v, h1, xCall_le (Nat.le_refl _) _ _ hd _ _ _ _ e, q⟩
theorem Ev.imp {D k : Nat} {vs : List Value} {h : Hp} {Q Q' : Option Value → Hp → Prop} (he : Ev D k vs h Q) (hq : ∀ v h1, Q v h1 → Q' v h1) : Ev D k vs h Q' := by
  obtain ⟨N, v, h1, e, q⟩ := he
  exact ⟨N, v, h1, e, hq _ _ q⟩
theorem Ex.imp {sc : Option (Nat × (Nat → Int32))} {D k : Nat} {is : List XI} {ls : LL} {st : List Value} {h : Hp} {Q Q' : Option Value → Hp → Prop} (he : Ex sc D k is ls st h Q) (hq : ∀ v h1, Q v h1 → Q' v h1) : Ex sc D k is ls st h Q' := by
  obtain ⟨N, n, v, h1, e, q⟩ := he
  exact ⟨N, n, v, h1, e, hq _ _ q⟩
/-- plain methods -/
def okK (k n m : Nat) : Bool := !(decide (k = 277 ∨ k = 278 ∨ k = 279 ∨ k = 83 ∨ k = 274)) && !(decide (eY (mOf k) = yL_law ∨ eSt (mOf k) = 3 ∨ eL (mOf k) < m ∨ n ≠ eN (mOf k)))
theorem Ev_body {D k : Nat} {vs : List Value} {h : Hp} {Q : Option Value → Hp → Prop} (L : Nat) (hL : eL (mOf k) = L) (hk : okK k vs.length (largs vs).length = true) : Ev (D + 1) k vs h Q = Ex none D k (blk k 0) (linit L vs) [] h Q := by
  subst hL
  simp only [okK, Bool.and_eq_true, Bool.not_eq_true', decide_eq_false_iff_not] at hk
  obtain ⟨k1, k2⟩ := hk
  have e : ∀ N, xCall N (D + 1) k vs h = xRun (xCall N D) none (blk k) N (blk k 0) (linit (eL (mOf k)) vs) [] h := by
    intro N
    rw [xCall, if_neg (by omega), if_neg (by omega), if_neg (by omega), if_neg k2]
  apply propext
  constructor
  · rintro ⟨N, v, h1, e1, q⟩
    rw [e] at e1
    exact ⟨N, N, v, h1, e1, q⟩
  · rintro ⟨N, n, v, h1, e1, q⟩
    refine ⟨max N n, v, h1, ?_, q⟩
    rw [e]
    exact xRun_le (xCall_le (Nat.le_max_left _ _) _ _ (Nat.le_refl _)) _ _ _ _ _ _ (Nat.le_max_right _ _) _ e1
section
variable {sc : Option (Nat × (Nat → Int32))} {D k : Nat} {is : List XI} {ls : LL} {st : List Value} {h : Hp} {Q : Option Value → Hp → Prop}
theorem Ex_step {x : XI} (q : List XI × LL × List Value × Hp) (hs : ∀ N, xStep (xCall N D) sc (blk k) x is ls st h = some (.inl q)) : Ex sc D k (x :: is) ls st h Q = Ex sc D k q.1 q.2.1 q.2.2.1 q.2.2.2 Q := by
  apply propext
  constructor
  · rintro ⟨N, n, v, h1, e, qq⟩
    cases n with
    | zero => simp [xRun] at e
    | succ n =>
      rw [xRun, hs N] at e
      exact ⟨N, n, v, h1, e, qq⟩
  · rintro ⟨N, n, v, h1, e, qq⟩
    refine ⟨N, n + 1, v, h1, ?_, qq⟩
    rw [xRun, hs N]
    exact e
theorem Ex_end {x : XI} (v : Option Value) (hs : ∀ N, xStep (xCall N D) sc (blk k) x is ls st h = some (.inr (v, h))) : Ex sc D k (x :: is) ls st h Q = Q v h := by
  apply propext
  constructor
  · rintro ⟨N, n, v', h1, e, qq⟩
    cases n with
    | zero => simp [xRun] at e
    | succ n =>
      rw [xRun, hs N] at e
      cases e
      exact qq
  · intro qq
    refine ⟨0, 1, v, h, ?_, qq⟩
    rw [xRun, hs 0]
theorem Ex_stuck {x : XI} (hs : ∀ N, xStep (xCall N D) sc (blk k) x is ls st h = none) : Ex sc D k (x :: is) ls st h Q = False := by
  apply propext
  constructor
  · rintro ⟨N, n, v', h1, e, qq⟩
    cases n with
    | zero => simp [xRun] at e
    | succ n =>
      rw [xRun, hs N] at e
      cases e
  · exact False.elim
theorem ex_iadd {x y : Int32} {z : Nat}  : Ex sc D k ((.iadd, z) :: is) ls (.int y :: .int x :: st) h Q = Ex sc D k is ls (.int (x + y) :: st) h Q := Ex_step (is, ls, (.int (x + y) :: st), h) (fun _ => rfl)
theorem ex_isub {x y : Int32} {z : Nat}  : Ex sc D k ((.isub, z) :: is) ls (.int y :: .int x :: st) h Q = Ex sc D k is ls (.int (x - y) :: st) h Q := Ex_step (is, ls, (.int (x - y) :: st), h) (fun _ => rfl)
theorem ex_imul {x y : Int32} {z : Nat}  : Ex sc D k ((.imul, z) :: is) ls (.int y :: .int x :: st) h Q = Ex sc D k is ls (.int (x * y) :: st) h Q := Ex_step (is, ls, (.int (x * y) :: st), h) (fun _ => rfl)
theorem ex_iand {x y : Int32} {z : Nat}  : Ex sc D k ((.iand, z) :: is) ls (.int y :: .int x :: st) h Q = Ex sc D k is ls (.int (x &&& y) :: st) h Q := Ex_step (is, ls, (.int (x &&& y) :: st), h) (fun _ => rfl)
theorem ex_ior {x y : Int32} {z : Nat}  : Ex sc D k ((.ior, z) :: is) ls (.int y :: .int x :: st) h Q = Ex sc D k is ls (.int (x ||| y) :: st) h Q := Ex_step (is, ls, (.int (x ||| y) :: st), h) (fun _ => rfl)
theorem ex_ixor {x y : Int32} {z : Nat}  : Ex sc D k ((.ixor, z) :: is) ls (.int y :: .int x :: st) h Q = Ex sc D k is ls (.int (x ^^^ y) :: st) h Q := Ex_step (is, ls, (.int (x ^^^ y) :: st), h) (fun _ => rfl)
theorem ex_ishl {x y : Int32} {z : Nat}  : Ex sc D k ((.ishl, z) :: is) ls (.int y :: .int x :: st) h Q = Ex sc D k is ls (.int (x <<< (y &&& 31)) :: st) h Q := Ex_step (is, ls, (.int (x <<< (y &&& 31)) :: st), h) (fun _ => rfl)
theorem ex_ishr {x y : Int32} {z : Nat}  : Ex sc D k ((.ishr, z) :: is) ls (.int y :: .int x :: st) h Q = Ex sc D k is ls (.int (x >>> (y &&& 31)) :: st) h Q := Ex_step (is, ls, (.int (x >>> (y &&& 31)) :: st), h) (fun _ => rfl)
theorem ex_iushr {x y : Int32} {z : Nat}  : Ex sc D k ((.iushr, z) :: is) ls (.int y :: .int x :: st) h Q = Ex sc D k is ls (.int ((x.toUInt32 >>> (y.toUInt32 &&& Int32.toUInt32 31)).toInt32) :: st) h Q := Ex_step (is, ls, (.int ((x.toUInt32 >>> (y.toUInt32 &&& Int32.toUInt32 31)).toInt32) :: st), h) (fun _ => rfl)
theorem ex_ladd {x y : Int64} {z : Nat}  : Ex sc D k ((.ladd, z) :: is) ls (.long y :: .long x :: st) h Q = Ex sc D k is ls (.long (x + y) :: st) h Q := Ex_step (is, ls, (.long (x + y) :: st), h) (fun _ => rfl)
theorem ex_lsub {x y : Int64} {z : Nat}  : Ex sc D k ((.lsub, z) :: is) ls (.long y :: .long x :: st) h Q = Ex sc D k is ls (.long (x - y) :: st) h Q := Ex_step (is, ls, (.long (x - y) :: st), h) (fun _ => rfl)
theorem ex_lmul {x y : Int64} {z : Nat}  : Ex sc D k ((.lmul, z) :: is) ls (.long y :: .long x :: st) h Q = Ex sc D k is ls (.long (x * y) :: st) h Q := Ex_step (is, ls, (.long (x * y) :: st), h) (fun _ => rfl)
theorem ex_land {x y : Int64} {z : Nat}  : Ex sc D k ((.land, z) :: is) ls (.long y :: .long x :: st) h Q = Ex sc D k is ls (.long (x &&& y) :: st) h Q := Ex_step (is, ls, (.long (x &&& y) :: st), h) (fun _ => rfl)
theorem ex_lor {x y : Int64} {z : Nat}  : Ex sc D k ((.lor, z) :: is) ls (.long y :: .long x :: st) h Q = Ex sc D k is ls (.long (x ||| y) :: st) h Q := Ex_step (is, ls, (.long (x ||| y) :: st), h) (fun _ => rfl)
theorem ex_idiv {x y : Int32} {z : Nat} (hy : ¬ y = 0) : Ex sc D k ((.idiv, z) :: is) ls (.int y :: .int x :: st) h Q = Ex sc D k is ls (.int (x / y) :: st) h Q := Ex_step (is, ls, .int (x / y) :: st, h) (fun _ => by simp only [xStep, if_neg hy]; rfl)
theorem ex_irem {x y : Int32} {z : Nat} (hy : ¬ y = 0) : Ex sc D k ((.irem, z) :: is) ls (.int y :: .int x :: st) h Q = Ex sc D k is ls (.int (x - x / y * y) :: st) h Q := Ex_step (is, ls, .int (x - x / y * y) :: st, h) (fun _ => by simp only [xStep, if_neg hy]; rfl)
theorem ex_ldiv {x y : Int64} {z : Nat} (hy : ¬ y = 0) : Ex sc D k ((.ldiv, z) :: is) ls (.long y :: .long x :: st) h Q = Ex sc D k is ls (.long (x / y) :: st) h Q := Ex_step (is, ls, .long (x / y) :: st, h) (fun _ => by simp only [xStep, if_neg hy]; rfl)
theorem ex_lrem {x y : Int64} {z : Nat} (hy : ¬ y = 0) : Ex sc D k ((.lrem, z) :: is) ls (.long y :: .long x :: st) h Q = Ex sc D k is ls (.long (x - x / y * y) :: st) h Q := Ex_step (is, ls, .long (x - x / y * y) :: st, h) (fun _ => by simp only [xStep, if_neg hy]; rfl)
theorem ex_lshl {x : Int64} {y : Int32} {z : Nat}  : Ex sc D k ((.lshl, z) :: is) ls (.int y :: .long x :: st) h Q = Ex sc D k is ls (.long (x <<< (y.toInt64 &&& 63)) :: st) h Q := Ex_step (is, ls, (.long (x <<< (y.toInt64 &&& 63)) :: st), h) (fun _ => rfl)
theorem ex_lushr {x : Int64} {y : Int32} {z : Nat}  : Ex sc D k ((.lushr, z) :: is) ls (.int y :: .long x :: st) h Q = Ex sc D k is ls (.long ((x.toUInt64 >>> (y.toInt64.toUInt64 &&& Int64.toUInt64 63)).toInt64) :: st) h Q := Ex_step (is, ls, (.long ((x.toUInt64 >>> (y.toInt64.toUInt64 &&& Int64.toUInt64 63)).toInt64) :: st), h) (fun _ => rfl)
theorem ex_lcmp {x y : Int64} {z : Nat}  : Ex sc D k ((.lcmp, z) :: is) ls (.long y :: .long x :: st) h Q = Ex sc D k is ls (.int (lg_cmp x y) :: st) h Q := Ex_step (is, ls, (.int (lg_cmp x y) :: st), h) (fun _ => rfl)
theorem ex_i2l {x : Int32} {z : Nat}  : Ex sc D k ((.i2l, z) :: is) ls (.int x :: st) h Q = Ex sc D k is ls (.long x.toInt64 :: st) h Q := Ex_step (is, ls, (.long x.toInt64 :: st), h) (fun _ => rfl)
theorem ex_l2i {x : Int64} {z : Nat}  : Ex sc D k ((.l2i, z) :: is) ls (.long x :: st) h Q = Ex sc D k is ls (.int x.toInt32 :: st) h Q := Ex_step (is, ls, (.int x.toInt32 :: st), h) (fun _ => rfl)
theorem ex_i2b {x : Int32} {z : Nat}  : Ex sc D k ((.i2b, z) :: is) ls (.int x :: st) h Q = Ex sc D k is ls (.int x.toInt8.toInt32 :: st) h Q := Ex_step (is, ls, (.int x.toInt8.toInt32 :: st), h) (fun _ => rfl)
theorem ex_iconst {n : Int} {z : Nat}  : Ex sc D k ((.iconst n, z) :: is) ls st h Q = Ex sc D k is ls (.int (Int32.ofInt n) :: st) h Q := Ex_step (is, ls, (.int (Int32.ofInt n) :: st), h) (fun _ => rfl)
theorem ex_lconst {n : Int} {z : Nat}  : Ex sc D k ((.sipush n, z) :: is) ls st h Q = Ex sc D k is ls (.long (Int64.ofInt n) :: st) h Q := Ex_step (is, ls, (.long (Int64.ofInt n) :: st), h) (fun _ => rfl)
theorem ex_null  {z : Nat}  : Ex sc D k ((.aconst_null, z) :: is) ls st h Q = Ex sc D k is ls (.null :: st) h Q := Ex_step (is, ls, (.null :: st), h) (fun _ => rfl)
theorem ex_ldc {j : Nat} {z : Nat}  : Ex sc D k ((.ldc j, z) :: is) ls st h Q = Ex sc D k is ls (.ref (SCR + j) :: st) h Q := Ex_step (is, ls, (.ref (SCR + j) :: st), h) (fun _ => rfl)
theorem ex_iload {i : Nat} {z : Nat} : Ex sc D k ((.iload i, z) :: is) ls st h Q = (match lget ls i with
    | some (.int v) => Ex sc D k is ls (.int v :: st) h Q
    | _ => False) := by
  split
  · rename_i v hv
    exact Ex_step (is, ls, .int v :: st, h) (fun _ => by simp only [xStep, hv]; rfl)
  · rename_i hv
    refine Ex_stuck (fun _ => ?_)
    simp only [xStep]
theorem ex_lload {i : Nat} {z : Nat} : Ex sc D k ((.lload i, z) :: is) ls st h Q = (match lget ls i with
    | some (.long v) => Ex sc D k is ls (.long v :: st) h Q
    | _ => False) := by
  split
  · rename_i v hv
    exact Ex_step (is, ls, .long v :: st, h) (fun _ => by simp only [xStep, hv]; rfl)
  · rename_i hv
    refine Ex_stuck (fun _ => ?_)
    simp only [xStep]
theorem ex_aload {i : Nat} {z : Nat} : Ex sc D k ((.aload i, z) :: is) ls st h Q = (match lget ls i with
    | some (.ref v) => Ex sc D k is ls (.ref v :: st) h Q
    | some .null => Ex sc D k is ls (.null :: st) h Q
    | _ => False) := by
  split
  · rename_i v hv
    exact Ex_step (is, ls, .ref v :: st, h) (fun _ => by simp only [xStep, hv]; rfl)
  · rename_i hv
    exact Ex_step (is, ls, .null :: st, h) (fun _ => by simp only [xStep, hv]; rfl)
  · rename_i hv hv1
    refine Ex_stuck (fun _ => ?_)
    simp only [xStep]
theorem ex_iinc {i : Nat} {n : Int} {z : Nat} (hi : i < ls.length) : Ex sc D k ((.iinc i n, z) :: is) ls st h Q = (match lget ls i with
    | some (.int v) => Ex sc D k is (lset1 ls i (.int (v + Int32.ofInt n))) st h Q
    | _ => False) := by
  split
  · rename_i v hv
    exact Ex_step (is, lset1 ls i (.int (v + Int32.ofInt n)), st, h) (fun _ => by simp only [xStep, hv, if_pos hi]; rfl)
  · rename_i hv
    refine Ex_stuck (fun _ => ?_)
    simp only [xStep]
theorem ex_istore {i : Nat} {v : Int32} {z : Nat} (hi : i < ls.length) : Ex sc D k ((.istore i, z) :: is) ls (.int v :: st) h Q = Ex sc D k is (lset1 ls i (.int v)) st h Q := Ex_step (is, (lset1 ls i (.int v)), st, h) (fun _ => by simp only [xStep, if_pos hi]; rfl)
theorem ex_astore {i : Nat} {v : Nat} {z : Nat} (hi : i < ls.length) : Ex sc D k ((.astore i, z) :: is) ls (.ref v :: st) h Q = Ex sc D k is (lset1 ls i (.ref v)) st h Q := Ex_step (is, (lset1 ls i (.ref v)), st, h) (fun _ => by simp only [xStep, if_pos hi]; rfl)
theorem ex_astoreN {i : Nat} {z : Nat} (hi : i < ls.length) : Ex sc D k ((.astore i, z) :: is) ls (.null :: st) h Q = Ex sc D k is (lset1 ls i .null) st h Q := Ex_step (is, (lset1 ls i .null), st, h) (fun _ => by simp only [xStep, if_pos hi]; rfl)
theorem ex_lstore {i : Nat} {v : Int64} {z : Nat} (hi : i + 1 < ls.length) : Ex sc D k ((.lstore i, z) :: is) ls (.long v :: st) h Q = Ex sc D k is (lclr (lset1 ls i (.long v)) (i + 1)) st h Q := Ex_step (is, (lclr (lset1 ls i (.long v)) (i + 1)), st, h) (fun _ => by simp only [xStep, if_pos hi]; rfl)
theorem ex_dup_int {v : Int32} {z : Nat}  : Ex sc D k ((.dup, z) :: is) ls (.int v :: st) h Q = Ex sc D k is ls (.int v :: .int v :: st) h Q := Ex_step (is, ls, (.int v :: .int v :: st), h) (fun _ => rfl)
theorem ex_pop_int {v : Int32} {z : Nat}  : Ex sc D k ((.pop, z) :: is) ls (.int v :: st) h Q = Ex sc D k is ls st h Q := Ex_step (is, ls, st, h) (fun _ => rfl)
theorem ex_dup_ref {v : Nat} {z : Nat}  : Ex sc D k ((.dup, z) :: is) ls (.ref v :: st) h Q = Ex sc D k is ls (.ref v :: .ref v :: st) h Q := Ex_step (is, ls, (.ref v :: .ref v :: st), h) (fun _ => rfl)
theorem ex_pop_ref {v : Nat} {z : Nat}  : Ex sc D k ((.pop, z) :: is) ls (.ref v :: st) h Q = Ex sc D k is ls st h Q := Ex_step (is, ls, st, h) (fun _ => rfl)
theorem ex_dup2l {v : Int64} {z : Nat}  : Ex sc D k ((.dup2, z) :: is) ls (.long v :: st) h Q = Ex sc D k is ls (.long v :: .long v :: st) h Q := Ex_step (is, ls, (.long v :: .long v :: st), h) (fun _ => rfl)
theorem ex_dup2ri {v : Nat} {i : Int32} {z : Nat}  : Ex sc D k ((.dup2, z) :: is) ls (.int i :: .ref v :: st) h Q = Ex sc D k is ls (.int i :: .ref v :: .int i :: .ref v :: st) h Q := Ex_step (is, ls, (.int i :: .ref v :: .int i :: .ref v :: st), h) (fun _ => rfl)
theorem ex_pop2 {v : Int64} {z : Nat}  : Ex sc D k ((.pop2, z) :: is) ls (.long v :: st) h Q = Ex sc D k is ls st h Q := Ex_step (is, ls, st, h) (fun _ => rfl)
theorem ex_goto {b : Int} {z : Nat}  : Ex sc D k ((.goto b, z) :: is) ls st h Q = Ex sc D k (blk k b.toNat) ls st h Q := Ex_step ((blk k b.toNat), ls, st, h) (fun _ => rfl)
theorem ex_jsr {b : Int} {z : Nat}  : Ex sc D k ((.jsr b, z) :: is) ls st h Q = Ex sc D k (blk k b.toNat) ls st h Q := Ex_step ((blk k b.toNat), ls, st, h) (fun _ => rfl)
theorem ex_icmp_eq {b : Int} {x y : Int32} {z : Nat} : Ex sc D k ((.if_icmp .eq b, z) :: is) ls (.int y :: .int x :: st) h Q = if x = y then Ex sc D k (blk k b.toNat) ls st h Q else Ex sc D k is ls st h Q := by
  by_cases hc : xdec .eq x y = true
  · rw [if_pos (show x = y from (xdec_iff _ _ _).mp hc)]
    exact Ex_step (blk k b.toNat, ls, st, h) (fun _ => by simp only [xStep, if_pos hc]; rfl)
  · rw [if_neg (show ¬ (x = y) from fun q => hc ((xdec_iff _ _ _).mpr q))]
    exact Ex_step (is, ls, st, h) (fun _ => by simp only [xStep, if_neg hc]; rfl)
theorem ex_ifc_eq {b : Int} {x : Int32} {z : Nat} : Ex sc D k ((.ifCond .eq b, z) :: is) ls (.int x :: st) h Q = if x = 0 then Ex sc D k (blk k b.toNat) ls st h Q else Ex sc D k is ls st h Q := by
  by_cases hc : xdec .eq x 0 = true
  · rw [if_pos (show x = 0 from (xdec_iff _ _ _).mp hc)]
    exact Ex_step (blk k b.toNat, ls, st, h) (fun _ => by simp only [xStep, if_pos hc]; rfl)
  · rw [if_neg (show ¬ (x = 0) from fun q => hc ((xdec_iff _ _ _).mpr q))]
    exact Ex_step (is, ls, st, h) (fun _ => by simp only [xStep, if_neg hc]; rfl)
theorem ex_icmp_ne {b : Int} {x y : Int32} {z : Nat} : Ex sc D k ((.if_icmp .ne b, z) :: is) ls (.int y :: .int x :: st) h Q = if ¬ x = y then Ex sc D k (blk k b.toNat) ls st h Q else Ex sc D k is ls st h Q := by
  by_cases hc : xdec .ne x y = true
  · rw [if_pos (show ¬ x = y from (xdec_iff _ _ _).mp hc)]
    exact Ex_step (blk k b.toNat, ls, st, h) (fun _ => by simp only [xStep, if_pos hc]; rfl)
  · rw [if_neg (show ¬ (¬ x = y) from fun q => hc ((xdec_iff _ _ _).mpr q))]
    exact Ex_step (is, ls, st, h) (fun _ => by simp only [xStep, if_neg hc]; rfl)
theorem ex_ifc_ne {b : Int} {x : Int32} {z : Nat} : Ex sc D k ((.ifCond .ne b, z) :: is) ls (.int x :: st) h Q = if ¬ x = 0 then Ex sc D k (blk k b.toNat) ls st h Q else Ex sc D k is ls st h Q := by
  by_cases hc : xdec .ne x 0 = true
  · rw [if_pos (show ¬ x = 0 from (xdec_iff _ _ _).mp hc)]
    exact Ex_step (blk k b.toNat, ls, st, h) (fun _ => by simp only [xStep, if_pos hc]; rfl)
  · rw [if_neg (show ¬ (¬ x = 0) from fun q => hc ((xdec_iff _ _ _).mpr q))]
    exact Ex_step (is, ls, st, h) (fun _ => by simp only [xStep, if_neg hc]; rfl)
theorem ex_icmp_lt {b : Int} {x y : Int32} {z : Nat} : Ex sc D k ((.if_icmp .lt b, z) :: is) ls (.int y :: .int x :: st) h Q = if x < y then Ex sc D k (blk k b.toNat) ls st h Q else Ex sc D k is ls st h Q := by
  by_cases hc : xdec .lt x y = true
  · rw [if_pos (show x < y from (xdec_iff _ _ _).mp hc)]
    exact Ex_step (blk k b.toNat, ls, st, h) (fun _ => by simp only [xStep, if_pos hc]; rfl)
  · rw [if_neg (show ¬ (x < y) from fun q => hc ((xdec_iff _ _ _).mpr q))]
    exact Ex_step (is, ls, st, h) (fun _ => by simp only [xStep, if_neg hc]; rfl)
theorem ex_ifc_lt {b : Int} {x : Int32} {z : Nat} : Ex sc D k ((.ifCond .lt b, z) :: is) ls (.int x :: st) h Q = if x < 0 then Ex sc D k (blk k b.toNat) ls st h Q else Ex sc D k is ls st h Q := by
  by_cases hc : xdec .lt x 0 = true
  · rw [if_pos (show x < 0 from (xdec_iff _ _ _).mp hc)]
    exact Ex_step (blk k b.toNat, ls, st, h) (fun _ => by simp only [xStep, if_pos hc]; rfl)
  · rw [if_neg (show ¬ (x < 0) from fun q => hc ((xdec_iff _ _ _).mpr q))]
    exact Ex_step (is, ls, st, h) (fun _ => by simp only [xStep, if_neg hc]; rfl)
theorem ex_icmp_ge {b : Int} {x y : Int32} {z : Nat} : Ex sc D k ((.if_icmp .ge b, z) :: is) ls (.int y :: .int x :: st) h Q = if y ≤ x then Ex sc D k (blk k b.toNat) ls st h Q else Ex sc D k is ls st h Q := by
  by_cases hc : xdec .ge x y = true
  · rw [if_pos (show y ≤ x from (xdec_iff _ _ _).mp hc)]
    exact Ex_step (blk k b.toNat, ls, st, h) (fun _ => by simp only [xStep, if_pos hc]; rfl)
  · rw [if_neg (show ¬ (y ≤ x) from fun q => hc ((xdec_iff _ _ _).mpr q))]
    exact Ex_step (is, ls, st, h) (fun _ => by simp only [xStep, if_neg hc]; rfl)
theorem ex_ifc_ge {b : Int} {x : Int32} {z : Nat} : Ex sc D k ((.ifCond .ge b, z) :: is) ls (.int x :: st) h Q = if 0 ≤ x then Ex sc D k (blk k b.toNat) ls st h Q else Ex sc D k is ls st h Q := by
  by_cases hc : xdec .ge x 0 = true
  · rw [if_pos (show 0 ≤ x from (xdec_iff _ _ _).mp hc)]
    exact Ex_step (blk k b.toNat, ls, st, h) (fun _ => by simp only [xStep, if_pos hc]; rfl)
  · rw [if_neg (show ¬ (0 ≤ x) from fun q => hc ((xdec_iff _ _ _).mpr q))]
    exact Ex_step (is, ls, st, h) (fun _ => by simp only [xStep, if_neg hc]; rfl)
theorem ex_icmp_gt {b : Int} {x y : Int32} {z : Nat} : Ex sc D k ((.if_icmp .gt b, z) :: is) ls (.int y :: .int x :: st) h Q = if y < x then Ex sc D k (blk k b.toNat) ls st h Q else Ex sc D k is ls st h Q := by
  by_cases hc : xdec .gt x y = true
  · rw [if_pos (show y < x from (xdec_iff _ _ _).mp hc)]
    exact Ex_step (blk k b.toNat, ls, st, h) (fun _ => by simp only [xStep, if_pos hc]; rfl)
  · rw [if_neg (show ¬ (y < x) from fun q => hc ((xdec_iff _ _ _).mpr q))]
    exact Ex_step (is, ls, st, h) (fun _ => by simp only [xStep, if_neg hc]; rfl)
theorem ex_ifc_gt {b : Int} {x : Int32} {z : Nat} : Ex sc D k ((.ifCond .gt b, z) :: is) ls (.int x :: st) h Q = if 0 < x then Ex sc D k (blk k b.toNat) ls st h Q else Ex sc D k is ls st h Q := by
  by_cases hc : xdec .gt x 0 = true
  · rw [if_pos (show 0 < x from (xdec_iff _ _ _).mp hc)]
    exact Ex_step (blk k b.toNat, ls, st, h) (fun _ => by simp only [xStep, if_pos hc]; rfl)
  · rw [if_neg (show ¬ (0 < x) from fun q => hc ((xdec_iff _ _ _).mpr q))]
    exact Ex_step (is, ls, st, h) (fun _ => by simp only [xStep, if_neg hc]; rfl)
theorem ex_icmp_le {b : Int} {x y : Int32} {z : Nat} : Ex sc D k ((.if_icmp .le b, z) :: is) ls (.int y :: .int x :: st) h Q = if x ≤ y then Ex sc D k (blk k b.toNat) ls st h Q else Ex sc D k is ls st h Q := by
  by_cases hc : xdec .le x y = true
  · rw [if_pos (show x ≤ y from (xdec_iff _ _ _).mp hc)]
    exact Ex_step (blk k b.toNat, ls, st, h) (fun _ => by simp only [xStep, if_pos hc]; rfl)
  · rw [if_neg (show ¬ (x ≤ y) from fun q => hc ((xdec_iff _ _ _).mpr q))]
    exact Ex_step (is, ls, st, h) (fun _ => by simp only [xStep, if_neg hc]; rfl)
theorem ex_ifc_le {b : Int} {x : Int32} {z : Nat} : Ex sc D k ((.ifCond .le b, z) :: is) ls (.int x :: st) h Q = if x ≤ 0 then Ex sc D k (blk k b.toNat) ls st h Q else Ex sc D k is ls st h Q := by
  by_cases hc : xdec .le x 0 = true
  · rw [if_pos (show x ≤ 0 from (xdec_iff _ _ _).mp hc)]
    exact Ex_step (blk k b.toNat, ls, st, h) (fun _ => by simp only [xStep, if_pos hc]; rfl)
  · rw [if_neg (show ¬ (x ≤ 0) from fun q => hc ((xdec_iff _ _ _).mpr q))]
    exact Ex_step (is, ls, st, h) (fun _ => by simp only [xStep, if_neg hc]; rfl)
theorem ex_ifnull {b : Int} {v : Nat} {z : Nat}  : Ex sc D k ((.ifnull b, z) :: is) ls (.ref v :: st) h Q = Ex sc D k is ls st h Q := Ex_step (is, ls, st, h) (fun _ => rfl)
theorem ex_ifnullN {b : Int} {z : Nat}  : Ex sc D k ((.ifnull b, z) :: is) ls (.null :: st) h Q = Ex sc D k (blk k b.toNat) ls st h Q := Ex_step ((blk k b.toNat), ls, st, h) (fun _ => rfl)
theorem ex_ifnn {b : Int} {v : Nat} {z : Nat}  : Ex sc D k ((.ifnonnull b, z) :: is) ls (.ref v :: st) h Q = Ex sc D k (blk k b.toNat) ls st h Q := Ex_step ((blk k b.toNat), ls, st, h) (fun _ => rfl)
theorem ex_ifnnN {b : Int} {z : Nat}  : Ex sc D k ((.ifnonnull b, z) :: is) ls (.null :: st) h Q = Ex sc D k is ls st h Q := Ex_step (is, ls, st, h) (fun _ => rfl)
theorem ex_tswOut {d lo hi : Int} {offs : Array Int} {x : Int32} {z : Nat} (ho : x.toInt < lo ∨ hi < x.toInt) : Ex sc D k ((.tableswitch d lo hi offs, z) :: is) ls (.int x :: st) h Q = Ex sc D k (blk k d.toNat) ls st h Q := Ex_step (blk k d.toNat, ls, st, h) (fun _ => by simp only [xStep, if_pos ho]; rfl)
theorem ex_tswIn {d lo hi : Int} {offs : Array Int} {x : Int32} {b : Int} {z : Nat} (ho : ¬ (x.toInt < lo ∨ hi < x.toInt)) (hb : offs[(x.toInt - lo).toNat]? = some b) : Ex sc D k ((.tableswitch d lo hi offs, z) :: is) ls (.int x :: st) h Q = Ex sc D k (blk k b.toNat) ls st h Q := Ex_step (blk k b.toNat, ls, st, h) (fun _ => by simp only [xStep, if_neg ho, hb]; rfl)
theorem ex_getI {ci a : Nat} {z : Nat} (hk : hK h a = ci + 1) : Ex sc D k ((.getfield ci, z) :: is) ls (.ref a :: st) h Q = Ex sc D k is ls (.int (hI h a z) :: st) h Q := Ex_step (is, ls, (.int (hI h a z) :: st), h) (fun _ => by simp only [xStep, if_pos hk]; rfl)
theorem ex_getL {ci a : Nat} {z : Nat} (hk : hK h a = ci + 1) : Ex sc D k ((.getstatic ci, z) :: is) ls (.ref a :: st) h Q = Ex sc D k is ls (.long (hL h a z) :: st) h Q := Ex_step (is, ls, (.long (hL h a z) :: st), h) (fun _ => by simp only [xStep, if_pos hk]; rfl)
theorem ex_getR {ci a : Nat} {z : Nat} (hk : hK h a = ci + 1) : Ex sc D k ((.checkcast ci, z) :: is) ls (.ref a :: st) h Q = Ex sc D k is ls (va_rf (hR h a z) :: st) h Q := Ex_step (is, ls, (va_rf (hR h a z) :: st), h) (fun _ => by simp only [xStep, if_pos hk]; rfl)
theorem ex_putI {ci a : Nat} {v : Int32} {z : Nat} (hk : hK h a = ci + 1) : Ex sc D k ((.putfield ci, z) :: is) ls (.int v :: .ref a :: st) h Q = Ex sc D k is ls st (sI h a z v) Q := Ex_step (is, ls, st, (sI h a z v)) (fun _ => by simp only [xStep, if_pos hk]; rfl)
theorem ex_putZ {ci a : Nat} {v : Int32} {z : Nat} (hk : hK h a = ci + 1) (hv : v = 0 ∨ v = 1) : Ex sc D k ((.ret ci, z) :: is) ls (.int v :: .ref a :: st) h Q = Ex sc D k is ls st (sI h a z v) Q := Ex_step (is, ls, st, (sI h a z v)) (fun _ => by simp only [xStep]; rw [if_pos ⟨hk, hv⟩]; rfl)
theorem ex_putL {ci a : Nat} {v : Int64} {z : Nat} (hk : hK h a = ci + 1) : Ex sc D k ((.putstatic ci, z) :: is) ls (.long v :: .ref a :: st) h Q = Ex sc D k is ls st (sL h a z v) Q := Ex_step (is, ls, st, (sL h a z v)) (fun _ => by simp only [xStep, if_pos hk]; rfl)
theorem ex_putR {ci a v : Nat} {z : Nat} (hk : hK h a = ci + 1) : Ex sc D k ((.instanceof ci, z) :: is) ls (.ref v :: .ref a :: st) h Q = Ex sc D k is ls st (sR h a z (some v)) Q := Ex_step (is, ls, st, (sR h a z (some v))) (fun _ => by simp only [xStep, if_pos hk]; rfl)
theorem ex_alen {a : Nat} {z : Nat} (hk : KI ≤ hK h a ∧ hK h a ≤ KT) : Ex sc D k ((.arraylength, z) :: is) ls (.ref a :: st) h Q = Ex sc D k is ls (.int (Int32.ofNat (hN h a)) :: st) h Q := Ex_step (is, ls, (.int (Int32.ofNat (hN h a)) :: st), h) (fun _ => by simp only [xStep]; rw [if_pos hk]; rfl)
theorem ex_iald {a : Nat} {i : Int32} {z : Nat} (hk : hK h a = KI) (hi : vp_in i (hN h a)) : Ex sc D k ((.iaload, z) :: is) ls (.int i :: .ref a :: st) h Q = Ex sc D k is ls (.int (hI h a i.toNatClampNeg) :: st) h Q := Ex_step (is, ls, (.int (hI h a i.toNatClampNeg) :: st), h) (fun _ => by simp only [xStep, if_pos hk, if_pos ((xin_iff _ _).mpr hi)]; rfl)
theorem ex_bald {a : Nat} {i : Int32} {z : Nat} (hk : hK h a = KB ∨ hK h a = KZ) (hi : vp_in i (hN h a)) : Ex sc D k ((.baload, z) :: is) ls (.int i :: .ref a :: st) h Q = Ex sc D k is ls (.int (hI h a i.toNatClampNeg) :: st) h Q := Ex_step (is, ls, (.int (hI h a i.toNatClampNeg) :: st), h) (fun _ => by simp only [xStep]; rw [if_pos ⟨hk, (xin_iff _ _).mpr hi⟩]; rfl)
theorem ex_lald {a : Nat} {i : Int32} {z : Nat} (hk : hK h a = KJ) (hi : vp_in i (hN h a)) : Ex sc D k ((.laload, z) :: is) ls (.int i :: .ref a :: st) h Q = Ex sc D k is ls (.long (hL h a i.toNatClampNeg) :: st) h Q := Ex_step (is, ls, (.long (hL h a i.toNatClampNeg) :: st), h) (fun _ => by simp only [xStep]; rw [if_pos ⟨hk, (xin_iff _ _).mpr hi⟩]; rfl)
theorem ex_aald {a : Nat} {i : Int32} {z : Nat} (hk : hK h a = KT) (hi : vp_in i (hN h a)) : Ex sc D k ((.aaload, z) :: is) ls (.int i :: .ref a :: st) h Q = Ex sc D k is ls (va_rf (hR h a i.toNatClampNeg) :: st) h Q := Ex_step (is, ls, (va_rf (hR h a i.toNatClampNeg) :: st), h) (fun _ => by simp only [xStep]; rw [if_pos ⟨hk, (xin_iff _ _).mpr hi⟩]; rfl)
theorem ex_iast {a : Nat} {i v : Int32} {z : Nat} (hk : hK h a = KI) (hi : vp_in i (hN h a)) : Ex sc D k ((.iastore, z) :: is) ls (.int v :: .int i :: .ref a :: st) h Q = Ex sc D k is ls st (sI h a i.toNatClampNeg v) Q := Ex_step (is, ls, st, (sI h a i.toNatClampNeg v)) (fun _ => by simp only [xStep]; rw [if_pos ⟨hk, (xin_iff _ _).mpr hi⟩]; rfl)
theorem ex_bastB {a : Nat} {i v : Int32} {z : Nat} (hk : hK h a = KB) (hi : vp_in i (hN h a)) : Ex sc D k ((.bastore, z) :: is) ls (.int v :: .int i :: .ref a :: st) h Q = Ex sc D k is ls st (sI h a i.toNatClampNeg (vp_nar .byte v)) Q := Ex_step (is, ls, st, (sI h a i.toNatClampNeg (vp_nar .byte v))) (fun _ => by simp only [xStep, if_pos ((xin_iff _ _).mpr hi), if_pos hk]; rfl)
theorem ex_bastZ {a : Nat} {i v : Int32} {z : Nat} (hk : hK h a = KZ) (hi : vp_in i (hN h a)) : Ex sc D k ((.bastore, z) :: is) ls (.int v :: .int i :: .ref a :: st) h Q = Ex sc D k is ls st (sI h a i.toNatClampNeg (vp_nar .boolean v)) Q := Ex_step (is, ls, st, (sI h a i.toNatClampNeg (vp_nar .boolean v))) (fun _ => by simp only [xStep, if_pos ((xin_iff _ _).mpr hi)]; rw [if_neg (by rw [hk]; decide), if_pos hk]; rfl)
theorem ex_last {a : Nat} {i : Int32} {v : Int64} {z : Nat} (hk : hK h a = KJ) (hi : vp_in i (hN h a)) : Ex sc D k ((.lastore, z) :: is) ls (.long v :: .int i :: .ref a :: st) h Q = Ex sc D k is ls st (sL h a i.toNatClampNeg v) Q := Ex_step (is, ls, st, (sL h a i.toNatClampNeg v)) (fun _ => by simp only [xStep]; rw [if_pos ⟨hk, (xin_iff _ _).mpr hi⟩]; rfl)
theorem ex_calls {k' n : Nat} (hc : catS (st.drop n) ≤ 8 ∧ n ≤ st.length) : Ex sc D k ((.invokestatic k', n) :: is) ls st h Q = Ev D k' (st.take n).reverse h (fun v h1 => Ex sc D k is ls (v.toList ++ st.drop n) h1 Q) := by
  apply propext
  constructor
  · rintro ⟨N, m, v, h1, e, qq⟩
    cases m with
    | zero => simp [xRun] at e
    | succ m =>
      rw [xRun] at e
      simp only [xStep] at e
      rw [if_pos hc] at e
      cases hcall : xCall N D k' (st.take n).reverse h with
      | none => rw [hcall] at e; cases e
      | some r =>
        obtain ⟨v1, h2⟩ := r
        rw [hcall] at e
        exact ⟨N, v1, h2, hcall, N, m, v, h1, e, qq⟩
  · rintro ⟨N, v1, h2, hcall, N2, m, v, h1, e, qq⟩
    refine ⟨max N N2, m + 1, v, h1, ?_, qq⟩
    rw [xRun]
    simp only [xStep]
    rw [if_pos hc, xCall_le (Nat.le_max_left N N2) _ _ (Nat.le_refl _) _ _ _ _ hcall]
    exact xRun_le (xCall_le (Nat.le_max_right N N2) _ _ (Nat.le_refl _)) _ _ _ _ _ _ (Nat.le_refl _) _ e
theorem ex_callv0 {k' n ci a : Nat} {vs : List Value} (hc : catS (st.drop n) ≤ 8 ∧ n ≤ st.length) (ha : (st.take n).reverse = .ref a :: vs) (hk : hK h a = ci + 1) : Ex sc D k ((.invokeinterface k' n, ci) :: is) ls st h Q = Ev D k' (.ref a :: vs) h (fun v h1 => Ex sc D k is ls (v.toList ++ st.drop n) h1 Q) := by
  apply propext
  constructor
  · rintro ⟨N, m, v, h1, e, qq⟩
    cases m with
    | zero => simp [xRun] at e
    | succ m =>
      rw [xRun] at e
      simp only [xStep] at e
      rw [if_pos hc, ha] at e
      dsimp only at e
      rw [if_pos hk] at e
      cases hcall : xCall N D k' (.ref a :: vs) h with
      | none => rw [hcall] at e; cases e
      | some r =>
        obtain ⟨v1, h2⟩ := r
        rw [hcall] at e
        exact ⟨N, v1, h2, hcall, N, m, v, h1, e, qq⟩
  · rintro ⟨N, v1, h2, hcall, N2, m, v, h1, e, qq⟩
    refine ⟨max N N2, m + 1, v, h1, ?_, qq⟩
    rw [xRun]
    simp only [xStep]
    rw [if_pos hc, ha]
    dsimp only
    rw [if_pos hk, xCall_le (Nat.le_max_left N N2) _ _ (Nat.le_refl _) _ _ _ _ hcall]
    exact xRun_le (xCall_le (Nat.le_max_right N N2) _ _ (Nat.le_refl _)) _ _ _ _ _ _ (Nat.le_refl _) _ e
theorem ex_callv {k' n ci : Nat} (hc : catS (st.drop n) ≤ 8 ∧ n ≤ st.length) : Ex sc D k ((.invokeinterface k' n, ci) :: is) ls st h Q = (match (st.take n).reverse with
    | .ref a :: vs => hK h a = ci + 1 ∧ Ev D k' (.ref a :: vs) h (fun v h1 => Ex sc D k is ls (v.toList ++ st.drop n) h1 Q)
    | _ => False) := by
  split
  · rename_i a vs ha
    by_cases hk : hK h a = ci + 1
    · rw [ex_callv0 hc ha hk]
      exact propext ⟨fun q => ⟨hk, q⟩, fun q => q.2⟩
    · refine (Ex_stuck (fun _ => ?_)).trans (propext ⟨False.elim, fun q => hk q.1⟩)
      simp only [xStep]
      rw [if_pos hc, ha]
      dsimp only
      rw [if_neg hk]
  · rename_i ha
    refine Ex_stuck (fun _ => ?_)
    simp only [xStep]
    rw [if_pos hc]
theorem ex_ireturn {v : Int32} : Ex sc D k ((.ireturn, 0) :: is) ls [.int v] h Q = Q (some (.int v)) h := Ex_end _ (fun _ => by simp only [xStep, true_or, if_true])
theorem ex_zreturn {v : Int32} (hv : v = 0 ∨ v = 1) : Ex sc D k ((.ireturn, 1) :: is) ls [.int v] h Q = Q (some (.int v)) h := Ex_end _ (fun _ => by simp only [xStep]; rw [if_pos (Or.inr hv)])
theorem ex_lreturn {v : Int64} {z : Nat} : Ex sc D k ((.lreturn, z) :: is) ls [.long v] h Q = Q (some (.long v)) h := Ex_end _ (fun _ => rfl)
theorem ex_vreturn {z : Nat} : Ex sc D k ((.return_, z) :: is) ls [] h Q = Q none h := Ex_end _ (fun _ => rfl)
theorem ex_obj {a : Nat} {z : Nat} (hc : catS st ≤ 8) : Ex sc D k ((.monitorexit, z) :: is) ls (.ref a :: st) h Q = Ex sc D k is ls st h Q := Ex_step (is, ls, st, h) (fun _ => by simp only [xStep]; rw [if_pos hc]; rfl)
theorem ex_slen {L : Nat} {xs : Nat → Int32} {z : Nat} (hk : hK h SCR = 0) : Ex (some (L, xs)) D k ((.arraylength, z) :: is) ls (.ref SCR :: st) h Q = Ex (some (L, xs)) D k is ls (.int (Int32.ofNat L) :: st) h Q := Ex_step (is, ls, .int (Int32.ofNat L) :: st, h) (fun _ => by simp only [xStep]; rw [if_neg (by rw [hk]; decide), if_pos trivial]; rfl)
theorem ex_sld {L : Nat} {xs : Nat → Int32} {i : Int32} {z : Nat} (hk : hK h SCR = 0) (hi : vp_in i L) : Ex (some (L, xs)) D k ((.iaload, z) :: is) ls (.int i :: .ref SCR :: st) h Q = Ex (some (L, xs)) D k is ls (.int (xs i.toNatClampNeg) :: st) h Q := Ex_step (is, ls, .int (xs i.toNatClampNeg) :: st, h) (fun _ => by simp only [xStep]; rw [if_neg (by rw [hk]; decide), if_pos trivial, if_pos ((xin_iff _ _).mpr hi)]; rfl)
end
