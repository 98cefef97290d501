/-- a whole row written -/
def sA (h : Hp) (a : Nat) (f : Nat → Int32) : Hp := (h.1, h.2.1, va_up h.2.2.1 a f, h.2.2.2)
def sLA (h : Hp) (a : Nat) (f : Nat → Int64) : Hp := (h.1, h.2.1, h.2.2.1, va_up h.2.2.2.1 a f, h.2.2.2.2)
section
variable {h : Hp} {a : Nat} {f : Nat → Int32} {g : Nat → Int64}
theorem hK_sA : hK (sA h a f) = hK h := rfl
theorem hN_sA : hN (sA h a f) = hN h := rfl
theorem hI_sA : hI (sA h a f) = va_up (hI h) a f := rfl
theorem hL_sA : hL (sA h a f) = hL h := rfl
theorem hR_sA : hR (sA h a f) = hR h := rfl
theorem hK_sLA : hK (sLA h a g) = hK h := rfl
theorem hN_sLA : hN (sLA h a g) = hN h := rfl
theorem hI_sLA : hI (sLA h a g) = hI h := rfl
theorem hL_sLA : hL (sLA h a g) = va_up (hL h) a g := rfl
theorem hR_sLA : hR (sLA h a g) = hR h := rfl
end
theorem vu_at {α : Type} (f : Nat → α) (k : Nat) (v : α) (j : Nat) : va_up f k v j = if j = k then v else f j := rfl
theorem sI_sA (h : Hp) (a j : Nat) (f : Nat → Int32) (v : Int32) : sI (sA h a f) a j v = sA h a (va_up f j v) := by
  unfold sI sA
  congr 3
  funext b i
  by_cases hb : b = a <;> simp [up2, va_up, hb]
theorem sA_self (h : Hp) (a : Nat) : sA h a (hI h a) = h := by
  unfold sA
  have e : va_up h.2.2.1 a (hI h a) = h.2.2.1 := by
    funext b
    by_cases hb : b = a
    · subst hb; simp [va_up]; rfl
    · simp [va_up, hb]
  rw [e]
theorem sI_eq (h : Hp) (a j : Nat) (v : Int32) : sI h a j v = sA h a (va_up (hI h a) j v) := by
  rw [← sI_sA, sA_self]
theorem sL_sLA (h : Hp) (a j : Nat) (f : Nat → Int64) (v : Int64) : sL (sLA h a f) a j v = sLA h a (va_up f j v) := by
  unfold sL sLA
  congr 4
  funext b i
  by_cases hb : b = a <;> simp [up2, va_up, hb]
theorem sLA_self (h : Hp) (a : Nat) : sLA h a (hL h a) = h := by
  unfold sLA
  have e : va_up h.2.2.2.1 a (hL h a) = h.2.2.2.1 := by
    funext b
    by_cases hb : b = a
    · subst hb; simp [va_up]; rfl
    · simp [va_up, hb]
  rw [e]
/-- m cells of f from s on, laid into g from p on -/
def cpF {α : Type} (f g : Nat → α) (s p m : Nat) : Nat → α := fun j => if p ≤ j ∧ j < p + m then f (s + (j - p)) else g j
theorem cpF_0 {α : Type} (f g : Nat → α) (s p : Nat) : cpF f g s p 0 = g := by
  funext j
  simp only [cpF]
  rw [if_neg (by omega)]
theorem cpF_s {α : Type} (f g : Nat → α) (s p m : Nat) : va_up (cpF f g s p m) (p + m) (f (s + m)) = cpF f g s p (m + 1) := by
  funext j
  simp only [cpF, va_up]
  by_cases hj : j = p + m
  · subst hj
    rw [if_pos rfl, if_pos (by omega)]
    congr 2
    omega
  · rw [if_neg hj]
    by_cases h2 : p ≤ j ∧ j < p + m
    · rw [if_pos h2, if_pos (by omega)]
    · rw [if_neg h2, if_neg (by omega)]
theorem ev_copy {D a b s p m : Nat} {h : Hp} {Q : Option Value → Hp → Prop} (hab : ¬ a = b) (hka : hK h a = 20) (hkb : hK h b = 20) (hna : hN h a < 1000000) (hnb : hN h b < 1000000) (hs : s + m ≤ hN h a) (hp : p + m ≤ hN h b) : Ev (D + 2) 67 [.ref a, .int (nI s), .ref b, .int (nI p), .int (nI m)] h Q = Q none (sA h b (cpF (hI h a) (hI h b) s p m)) := by
  rw [Ev_body 6 rfl rfl]
  have key : ∀ r j, j + r = m → Ex none (D + 1) 67 (blk 67 1) [some (.ref a), some (.int (nI s)), some (.ref b), some (.int (nI p)), some (.int (nI m)), some (.int (nI j))] [] (sA h b (cpF (hI h a) (hI h b) s p j)) Q = Q none (sA h b (cpF (hI h a) (hI h b) s p m)) := by
    intro r
    induction r with
    | zero =>
      intro j hj
      have hjm : j = m := by omega
      subst hjm
      simp (disch := first | omega | (simp only [List.length_cons, List.length_nil, List.drop_succ_cons, List.drop_zero, catS, Value.category, Nat.reduceAdd, Nat.reduceLT, Nat.reduceLeDiff, Nat.le_refl, and_self, and_true, true_and]; done) | (simp only [hK_sI, hN_sI, hK_sL, hN_sL, hK_sR, hN_sR]; omega) | assumption) only [ex_ialdN, ex_baldB, ex_baldZ, ex_laldN, ex_aaldN, ex_iastN, ex_lastN, ex_bastBN, ex_bastZ0, ex_bastZ1, ex_bastZB, ex_alenN, ex_putZ0, ex_putZ1, ex_putZB, ex_iadd, ex_isub, ex_imul, ex_iand, ex_ior, ex_ixor, ex_ishl, ex_ishr, ex_iushr, ex_ladd, ex_lsub, ex_lmul, ex_land, ex_lor, ex_idiv, ex_irem, ex_ldiv, ex_lrem, ex_lshl, ex_lushr, ex_lcmp, ex_i2l, ex_l2i, ex_i2b, ex_iconst, ex_lconst, ex_null, ex_ldc, ex_iload, ex_lload, ex_aload, ex_istore, ex_astore, ex_astoreN, ex_lstore, ex_iinc, ex_dup_int, ex_pop_int, ex_dup_ref, ex_pop_ref, ex_dup2l, ex_dup2ri, ex_pop2, ex_goto, ex_jsr, ex_ifnull, ex_ifnullN, ex_ifnn, ex_ifnnN, ex_getI, ex_getL, ex_getR, ex_putI, ex_putL, ex_putR, ex_calls, ex_callv, ex_ireturn, ex_zB, ex_z0, ex_z1, ex_lreturn, ex_vreturn, ex_obj, ex_icmp_eq, ex_icmp_ne, ex_icmp_lt, ex_icmp_ge, ex_icmp_gt, ex_icmp_le, ex_ifc_eq, ex_ifc_ne, ex_ifc_lt, ex_ifc_ge, ex_ifc_gt, ex_ifc_le, lget_cons0, lget_cons, lset1, lclr, isL, List.length_cons, List.length_nil, List.take, List.drop, List.take_zero, List.drop_zero, List.reverse_cons, List.reverse_nil, List.nil_append, List.cons_append, catS, Value.category, tl_some, tl_none, rf_some, rf_none, Int.toNat_natCast, Int.reduceToNat, Nat.reduceAdd, Nat.reduceLT, Nat.reduceLeDiff, Nat.reduceEqDiff, and_true, true_and, and_self, eq_self, reduceIte, false_and, and_false, Bool.false_eq_true, Bool.true_eq_false, or_true, true_or, or_false, false_or, not_true_eq_false, not_false_eq_true, ite_true, ite_false, if_true, if_false, linit, largs, List.replicate, Nat.reduceSub, Nat.sub_self, kim1000000000, kim2, kim1, ki0, ki1, ki2, ki3, ki4, ki5, ki6, ki7, ki8, ki9, ki10, ki12, ki15, ki16, ki20, ki24, ki30, ki32, ki33, ki38, ki40, ki41, ki42, ki43, ki44, ki45, ki46, ki47, ki48, ki50, ki52, ki57, ki58, ki59, ki60, ki61, ki62, ki63, ki91, ki93, ki97, ki99, ki100, ki102, ki108, ki109, ki110, ki111, ki116, ki119, ki120, ki121, ki124, ki128, ki200, ki240, ki255, ki480, ki680, ki999, ki1000, ki7776, ki252645135, ki858993459, ki1431655765, klm1000000000, klm1000000, klm1, kl0, kl1, kl2, kl3, kl4, kl5, kl12, kl60, kl99, kl999, kl1000, kl1000000, kl1000000000, kl4294967295, kl1442695040888963407, kl6364136223846793005, hK_sI, hN_sI, hI_sI, hL_sI, hR_sI, hZ_sI, hC_sI, hS_sI, hK_sL, hN_sL, hI_sL, hL_sL, hR_sL, hZ_sL, hC_sL, hS_sL, hK_sR, hN_sR, hI_sR, hL_sR, hR_sR, hZ_sR, hC_sR, hS_sR, up2_at, decide_true, decide_false, Bool.false_and, Bool.true_and, Bool.and_true, Bool.and_false, nI_ltN, nI_leN, nI_eqN, nI_eq0, nI_lt0N, nI_le0N, nI_gt0N, nI_le00N, nI_add, nI_mul, bB_0, bB_n, d_le, d_nle, d_lt, d_nlt, d_eq, d_ne, b67_1, b67_2]
    | succ r ih =>
      intro j hj
      have ih := ih (j + 1) (by omega)
      rw [← cpF_s, ← sI_sA] at ih
      rw [b67_1]
      simp (disch := first | omega | (simp only [List.length_cons, List.length_nil, List.drop_succ_cons, List.drop_zero, catS, Value.category, Nat.reduceAdd, Nat.reduceLT, Nat.reduceLeDiff, Nat.le_refl, and_self, and_true, true_and]; done) | (simp only [hK_sI, hN_sI, hK_sL, hN_sL, hK_sR, hN_sR, hK_sA, hN_sA, hK_sLA, hN_sLA]; omega) | assumption) only [ex_ialdN, ex_baldB, ex_baldZ, ex_laldN, ex_aaldN, ex_iastN, ex_lastN, ex_bastBN, ex_bastZ0, ex_bastZ1, ex_bastZB, ex_alenN, ex_putZ0, ex_putZ1, ex_putZB, ex_iadd, ex_isub, ex_imul, ex_iand, ex_ior, ex_ixor, ex_ishl, ex_ishr, ex_iushr, ex_ladd, ex_lsub, ex_lmul, ex_land, ex_lor, ex_idiv, ex_irem, ex_ldiv, ex_lrem, ex_lshl, ex_lushr, ex_lcmp, ex_i2l, ex_l2i, ex_i2b, ex_iconst, ex_lconst, ex_null, ex_ldc, ex_iload, ex_lload, ex_aload, ex_istore, ex_astore, ex_astoreN, ex_lstore, ex_iinc, ex_dup_int, ex_pop_int, ex_dup_ref, ex_pop_ref, ex_dup2l, ex_dup2ri, ex_pop2, ex_goto, ex_jsr, ex_ifnull, ex_ifnullN, ex_ifnn, ex_ifnnN, ex_getI, ex_getL, ex_getR, ex_putI, ex_putL, ex_putR, ex_calls, ex_callv, ex_ireturn, ex_zB, ex_z0, ex_z1, ex_lreturn, ex_vreturn, ex_obj, ex_icmp_eq, ex_icmp_ne, ex_icmp_lt, ex_icmp_ge, ex_icmp_gt, ex_icmp_le, ex_ifc_eq, ex_ifc_ne, ex_ifc_lt, ex_ifc_ge, ex_ifc_gt, ex_ifc_le, lget_cons0, lget_cons, lset1, lclr, isL, List.length_cons, List.length_nil, List.take, List.drop, List.take_zero, List.drop_zero, List.reverse_cons, List.reverse_nil, List.nil_append, List.cons_append, catS, Value.category, tl_some, tl_none, rf_some, rf_none, Int.toNat_natCast, Int.reduceToNat, Nat.reduceAdd, Nat.reduceLT, Nat.reduceLeDiff, Nat.reduceEqDiff, and_true, true_and, and_self, eq_self, reduceIte, false_and, and_false, Bool.false_eq_true, Bool.true_eq_false, or_true, true_or, or_false, false_or, not_true_eq_false, not_false_eq_true, ite_true, ite_false, if_true, if_false, linit, largs, List.replicate, Nat.reduceSub, Nat.sub_self, kim1000000000, kim2, kim1, ki0, ki1, ki2, ki3, ki4, ki5, ki6, ki7, ki8, ki9, ki10, ki12, ki15, ki16, ki20, ki24, ki30, ki32, ki33, ki38, ki40, ki41, ki42, ki43, ki44, ki45, ki46, ki47, ki48, ki50, ki52, ki57, ki58, ki59, ki60, ki61, ki62, ki63, ki91, ki93, ki97, ki99, ki100, ki102, ki108, ki109, ki110, ki111, ki116, ki119, ki120, ki121, ki124, ki128, ki200, ki240, ki255, ki480, ki680, ki999, ki1000, ki7776, ki252645135, ki858993459, ki1431655765, klm1000000000, klm1000000, klm1, kl0, kl1, kl2, kl3, kl4, kl5, kl12, kl60, kl99, kl999, kl1000, kl1000000, kl1000000000, kl4294967295, kl1442695040888963407, kl6364136223846793005, hK_sI, hN_sI, hI_sI, hL_sI, hR_sI, hZ_sI, hC_sI, hS_sI, hK_sL, hN_sL, hI_sL, hL_sL, hR_sL, hZ_sL, hC_sL, hS_sL, hK_sR, hN_sR, hI_sR, hL_sR, hR_sR, hZ_sR, hC_sR, hS_sR, up2_at, decide_true, decide_false, Bool.false_and, Bool.true_and, Bool.and_true, Bool.and_false, nI_ltN, nI_leN, nI_eqN, nI_eq0, nI_lt0N, nI_le0N, nI_gt0N, nI_le00N, nI_add, nI_mul, bB_0, bB_n, d_le, d_nle, d_lt, d_nlt, d_eq, d_ne, ev_at, ev_put, hI_sA, vu_at]
      exact ih
  simp (disch := first | omega | (simp only [List.length_cons, List.length_nil, List.drop_succ_cons, List.drop_zero, catS, Value.category, Nat.reduceAdd, Nat.reduceLT, Nat.reduceLeDiff, Nat.le_refl, and_self, and_true, true_and]; done) | (simp only [hK_sI, hN_sI, hK_sL, hN_sL, hK_sR, hN_sR]; omega) | assumption) only [ex_ialdN, ex_baldB, ex_baldZ, ex_laldN, ex_aaldN, ex_iastN, ex_lastN, ex_bastBN, ex_bastZ0, ex_bastZ1, ex_bastZB, ex_alenN, ex_putZ0, ex_putZ1, ex_putZB, ex_iadd, ex_isub, ex_imul, ex_iand, ex_ior, ex_ixor, ex_ishl, ex_ishr, ex_iushr, ex_ladd, ex_lsub, ex_lmul, ex_land, ex_lor, ex_idiv, ex_irem, ex_ldiv, ex_lrem, ex_lshl, ex_lushr, ex_lcmp, ex_i2l, ex_l2i, ex_i2b, ex_iconst, ex_lconst, ex_null, ex_ldc, ex_iload, ex_lload, ex_aload, ex_istore, ex_astore, ex_astoreN, ex_lstore, ex_iinc, ex_dup_int, ex_pop_int, ex_dup_ref, ex_pop_ref, ex_dup2l, ex_dup2ri, ex_pop2, ex_goto, ex_jsr, ex_ifnull, ex_ifnullN, ex_ifnn, ex_ifnnN, ex_getI, ex_getL, ex_getR, ex_putI, ex_putL, ex_putR, ex_calls, ex_callv, ex_ireturn, ex_zB, ex_z0, ex_z1, ex_lreturn, ex_vreturn, ex_obj, ex_icmp_eq, ex_icmp_ne, ex_icmp_lt, ex_icmp_ge, ex_icmp_gt, ex_icmp_le, ex_ifc_eq, ex_ifc_ne, ex_ifc_lt, ex_ifc_ge, ex_ifc_gt, ex_ifc_le, lget_cons0, lget_cons, lset1, lclr, isL, List.length_cons, List.length_nil, List.take, List.drop, List.take_zero, List.drop_zero, List.reverse_cons, List.reverse_nil, List.nil_append, List.cons_append, catS, Value.category, tl_some, tl_none, rf_some, rf_none, Int.toNat_natCast, Int.reduceToNat, Nat.reduceAdd, Nat.reduceLT, Nat.reduceLeDiff, Nat.reduceEqDiff, and_true, true_and, and_self, eq_self, reduceIte, false_and, and_false, Bool.false_eq_true, Bool.true_eq_false, or_true, true_or, or_false, false_or, not_true_eq_false, not_false_eq_true, ite_true, ite_false, if_true, if_false, linit, largs, List.replicate, Nat.reduceSub, Nat.sub_self, kim1000000000, kim2, kim1, ki0, ki1, ki2, ki3, ki4, ki5, ki6, ki7, ki8, ki9, ki10, ki12, ki15, ki16, ki20, ki24, ki30, ki32, ki33, ki38, ki40, ki41, ki42, ki43, ki44, ki45, ki46, ki47, ki48, ki50, ki52, ki57, ki58, ki59, ki60, ki61, ki62, ki63, ki91, ki93, ki97, ki99, ki100, ki102, ki108, ki109, ki110, ki111, ki116, ki119, ki120, ki121, ki124, ki128, ki200, ki240, ki255, ki480, ki680, ki999, ki1000, ki7776, ki252645135, ki858993459, ki1431655765, klm1000000000, klm1000000, klm1, kl0, kl1, kl2, kl3, kl4, kl5, kl12, kl60, kl99, kl999, kl1000, kl1000000, kl1000000000, kl4294967295, kl1442695040888963407, kl6364136223846793005, hK_sI, hN_sI, hI_sI, hL_sI, hR_sI, hZ_sI, hC_sI, hS_sI, hK_sL, hN_sL, hI_sL, hL_sL, hR_sL, hZ_sL, hC_sL, hS_sL, hK_sR, hN_sR, hI_sR, hL_sR, hR_sR, hZ_sR, hC_sR, hS_sR, up2_at, decide_true, decide_false, Bool.false_and, Bool.true_and, Bool.and_true, Bool.and_false, nI_ltN, nI_leN, nI_eqN, nI_eq0, nI_lt0N, nI_le0N, nI_gt0N, nI_le00N, nI_add, nI_mul, bB_0, bB_n, d_le, d_nle, d_lt, d_nlt, d_eq, d_ne, b67_0]
  have k0 := key m 0 (by omega)
  rw [cpF_0, sA_self] at k0
  exact k0
