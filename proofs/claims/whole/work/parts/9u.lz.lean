/-! The law: clause, the loop, its start; one run. -/
def s92 (u j : Nat) : Bool := u == 96 || (u == 74 && j == 0)
theorem dj_92 : ∀ u j, rA u j = true → s92 u j = false := fun u j z => by
  cases q : s92 u j
  · rfl
  · simp only [rA, rA, rT, rU, rS, rI, rE, rK, rKc, rKm, rC, rM, Bool.or_eq_true, Bool.and_eq_true, beq_iff_eq] at z
    simp only [s92, Bool.or_eq_true, Bool.and_eq_true, beq_iff_eq] at q
    omega
theorem dj_92e : ∀ u j, rE u j = true → s92 u j = false := fun u j z => by
  cases q : s92 u j
  · rfl
  · simp only [rE, rT, rU, rS, rI, rE, rK, rKc, rKm, rC, rM, Bool.or_eq_true, Bool.and_eq_true, beq_iff_eq] at z
    simp only [s92, Bool.or_eq_true, Bool.and_eq_true, beq_iff_eq] at q
    omega
section
variable {D L i n : Nat} {xs : Nat → Int32} {h : Hp} {w5 w6 : Option Value} {Q : Option Value → Hp → Prop}
theorem ev_thrown (f : Fr h) : Ev (D + 1) 81 [.ref 74] h Q = Q (some (.int (hI h 74 0))) h := by
  rw [Ev_body 1 rfl rfl]
  simp (disch := first | (simp only [Fr_sI, Fr_sL, Fr_sA, Fr_sLA]; assumption) | assumption | decide | omega | (simp only [List.length_cons, List.length_nil, List.drop_succ_cons, List.drop_zero, catS, Value.category, Nat.reduceAdd, Nat.reduceLT, Nat.reduceLeDiff, Nat.le_refl, and_self, and_true, true_and]; done) | (simp only [hK_sI, hN_sI, hK_sL, hN_sL, hK_sR, hN_sR, hK_sA, hN_sA, hK_sLA, hN_sLA]; first | assumption | omega)) only [ex_iadd, ex_isub, ex_imul, ex_iand, ex_ior, ex_ixor, ex_ishl, ex_ishr, ex_iushr, ex_ladd, ex_lsub, ex_lmul, ex_idiv, ex_irem, ex_ldiv, ex_lrem, ex_lshl, ex_lushr, ex_lcmp, ex_i2l, ex_l2i, ex_i2b, ex_iconst, ex_lconst, ex_null, ex_iload, ex_lload, ex_aload, ex_istore, ex_astore, ex_astoreN, ex_lstore, ex_iinc, ex_dup_int, ex_pop_int, ex_dup_ref, ex_pop_ref, ex_dup2l, ex_dup2ri, ex_pop2, ex_goto, ex_jsr, ex_ifnull, ex_ifnullN, ex_ifnn, ex_ifnnN, ex_calls, ex_callv, ex_ireturn, ex_zB, ex_z0, ex_z1, ex_lreturn, ex_vreturn, ex_obj, ex_icmp_eq, ex_icmp_ne, ex_icmp_lt, ex_icmp_ge, ex_icmp_gt, ex_icmp_le, ex_ifc_eq, ex_ifc_ne, ex_ifc_lt, ex_ifc_ge, ex_ifc_gt, ex_ifc_le, lget_cons0, lget_cons, lset1, lclr, isL, List.length_cons, List.length_nil, List.take, List.drop, List.take_zero, List.drop_zero, List.reverse_cons, List.reverse_nil, List.nil_append, List.cons_append, catS, Value.category, tl_some, tl_none, rf_some, rf_none, Int.toNat_natCast, Int.reduceToNat, Nat.reduceAdd, Nat.reduceLT, Nat.reduceLeDiff, Nat.reduceEqDiff, and_true, true_and, and_self, eq_self, reduceIte, false_and, and_false, Bool.false_eq_true, Bool.true_eq_false, or_true, true_or, or_false, false_or, not_true_eq_false, not_false_eq_true, ite_true, ite_false, if_true, if_false, linit, largs, List.replicate, Nat.reduceSub, Nat.sub_self, kim1000000000, kim2, kim1, ki0, ki1, ki2, ki3, ki4, ki5, ki6, ki7, ki8, ki9, ki10, ki12, ki15, ki16, ki20, ki24, ki30, ki32, ki33, ki38, ki40, ki41, ki42, ki43, ki44, ki45, ki46, ki47, ki48, ki50, ki52, ki57, ki58, ki59, ki60, ki61, ki62, ki63, ki91, ki93, ki97, ki99, ki100, ki102, ki108, ki109, ki110, ki111, ki116, ki119, ki120, ki121, ki124, ki128, ki200, ki240, ki255, ki480, ki680, ki999, ki1000, ki7776, ki252645135, ki858993459, ki1431655765, klm1000000000, klm1000000, klm1, kl0, kl1, kl2, kl3, kl4, kl5, kl12, kl60, kl99, kl999, kl1000, kl1000000, kl1000000000, kl4294967295, kl1442695040888963407, kl6364136223846793005, hK_sI, hN_sI, hI_sI, hL_sI, hR_sI, hZ_sI, hC_sI, hS_sI, hK_sL, hN_sL, hI_sL, hL_sL, hR_sL, hZ_sL, hC_sL, hS_sL, hK_sR, hN_sR, hI_sR, hL_sR, hR_sR, hZ_sR, hC_sR, hS_sR, hK_sA, hN_sA, hI_sA, hL_sA, hR_sA, hK_sLA, hN_sLA, hI_sLA, hL_sLA, hR_sLA, up2_at, vu_at, decide_true, decide_false, Bool.false_and, Bool.true_and, Bool.and_true, Bool.and_false, nI_ltN, nI_leN, nI_eqN, nI_eq0, nI_lt0N, nI_le0N, nI_gt0N, nI_le00N, nI_add, nI_mul, bB_0, bB_n, d_le, d_nle, d_lt, d_nlt, d_eq, d_ne, u_k0, u_k1, u_k4, u_k5, u_k7, u_k8, u_k11, u_k14, u_k21, u_k24, u_k33, u_k36, u_k37, u_k41, u_k45, u_k55, u_k66, u_k68, u_k70, u_k72, u_k74, b81_0, u_gI74, u_gL74, u_pL74, u_pI74, u_pZa74, u_pZb74, u_pZc74, u_pR74, u_gD74, u_rf74_1, u_rf74_2, u_rf74_3, u_rf74_4, u_rf74_15, u_rf74_16, u_rf74_18, u_rf74_19, u_rf74_21, u_rf74_22, u_rf74_23, u_rf74_24, u_rf74_25, u_rf74_26, u_rf74_27, u_rf74_28, u_rf74_29, u_rf74_39, u_rf74_41, u_rf74_42, u_rf74_43, u_rf74_45, u_rf74_46, u_k74]
theorem ev_lawClause (f : Fr h) (n5 : n ≤ 5) (hn : hI h 11 0 = nI n) {x y : Int32} (h0 : ¬ gCe n x y → Q (some (.int (nI 1))) (hPay h 1 6)) (h1 : gCe n x y → Q (some (.int (nI 0))) (sL h 96 0 (hI h 12 (6 * tN x + tN y)).toInt64)) : Ev (D + 10) 274 [.ref 0, .int x, .int y, .ref 96] h Q := by
  have k0 := u_k0 f
  have k11 := u_k11 f
  have k92 : hK h 96 = 23 := kf f (by decide) rfl
  have n92 : hN h 96 = 1 := nf f (by decide) rfl
  have r06 : hR h 0 6 = some 11 := rfk f 5 rfl
  obtain ⟨N1, v1, g1, e1, q1, q2⟩ : Ev (D + 9) 191 [.ref 11, .int x, .int y] h (fun v g => v = some (.int (bB (dIn n x && dIn 6 y))) ∧ g = h) := by
    rw [ev_has (D := D + 8) f hn]
    exact ⟨rfl, rfl⟩
  subst q1
  subst q2
  by_cases G : gCe n x y
  · have h1 := h1 G
    obtain ⟨gx, gy⟩ := G
    rw [gx, gy] at e1
    obtain ⟨jx, bx, rfl⟩ := dIn_get (by omega) gx
    obtain ⟨jy, by', rfl⟩ := dIn_get (by decide) gy
    rw [tN_nI (by omega), tN_nI (by omega)] at h1
    obtain ⟨N2, v2, g2, e2, q3, q4⟩ : Ev (D + 9) 192 [.ref 11, .int (nI jx), .int (nI jy)] g1 (fun v g => v = some (.int (hI g1 12 (6 * jx + jy))) ∧ g = g1) := by
      rw [ev_clauseOf (D := D + 7) f (by omega) (by omega)]
      exact ⟨rfl, rfl⟩
    subst q3
    subst q4
    have a1 := xCall_le (Nat.le_max_left N1 N2) (D + 9) (D + 9) (Nat.le_refl _) _ _ _ _ e1
    have a2 := xCall_le (Nat.le_max_right N1 N2) (D + 9) (D + 9) (Nat.le_refl _) _ _ _ _ e2
    refine ⟨max N1 N2, _, _, ?_, h1⟩
    rw [xCall, if_neg (by decide), if_neg (by decide), if_pos rfl]
    unfold pClause
    dsimp only
    rw [if_pos ⟨k0, k92, by omega⟩, r06]
    dsimp only
    rw [if_pos k11, a1]
    dsimp only
    rw [if_neg (by decide), if_pos ⟨k0, r06, k11, k92, by omega⟩, a2]
    dsimp only
    rw [if_pos ⟨k92, by omega⟩]
    rfl
  · have h0 := h0 G
    have e0 : (dIn n x && dIn 6 y) = false := by
      cases gx : dIn n x
      · rfl
      · cases gy : dIn 6 y
        · rfl
        · exact absurd ⟨gx, gy⟩ G
    rw [e0] at e1
    refine ⟨N1, _, _, ?_, h0⟩
    rw [xCall, if_neg (by decide), if_neg (by decide), if_pos rfl]
    unfold pClause
    dsimp only
    rw [if_pos ⟨k0, k92, by omega⟩, r06]
    dsimp only
    rw [if_pos k11, e1]
    dsimp only
    rw [if_pos (by decide)]
    rfl
set_option maxHeartbeats 1000000 in
theorem lcs_6 (r : Rel h) (iL : i + 8 ≤ L) (L4 : L ≤ 4096) (nx : nxL L xs (D + 830) i h Q) : Ex (some (L, xs)) (D + 830) 275 (blk 275 6) [some (.ref SCR), some (.ref 0), some (.ref 74), some (.ref 96), some (.int (nI i)), w5, w6] [] h Q := by
  obtain ⟨f, tp, ru, su, is, me, kp, n, d, ac, cl, wt, hd, fc, th, dn, wh, de, dy, xx, bf, p, cv, mv⟩ := id r
  have kS : hK h SCR = 0 := f.2.2
  simp (disch := first | (simp only [Fr_sI, Fr_sL, Fr_sA, Fr_sLA]; assumption) | assumption | decide | omega | (simp only [List.length_cons, List.length_nil, List.drop_succ_cons, List.drop_zero, catS, Value.category, Nat.reduceAdd, Nat.reduceLT, Nat.reduceLeDiff, Nat.le_refl, and_self, and_true, true_and]; done) | (simp only [hK_sI, hN_sI, hK_sL, hN_sL, hK_sR, hN_sR, hK_sA, hN_sA, hK_sLA, hN_sLA]; first | assumption | omega)) only [ex_iadd, ex_isub, ex_imul, ex_iand, ex_ior, ex_ixor, ex_ishl, ex_ishr, ex_iushr, ex_ladd, ex_lsub, ex_lmul, ex_idiv, ex_irem, ex_ldiv, ex_lrem, ex_lshl, ex_lushr, ex_lcmp, ex_i2l, ex_l2i, ex_i2b, ex_iconst, ex_lconst, ex_null, ex_iload, ex_lload, ex_aload, ex_istore, ex_astore, ex_astoreN, ex_lstore, ex_iinc, ex_dup_int, ex_pop_int, ex_dup_ref, ex_pop_ref, ex_dup2l, ex_dup2ri, ex_pop2, ex_goto, ex_jsr, ex_ifnull, ex_ifnullN, ex_ifnn, ex_ifnnN, ex_calls, ex_callv, ex_ireturn, ex_zB, ex_z0, ex_z1, ex_lreturn, ex_vreturn, ex_obj, ex_icmp_eq, ex_icmp_ne, ex_icmp_lt, ex_icmp_ge, ex_icmp_gt, ex_icmp_le, ex_ifc_eq, ex_ifc_ne, ex_ifc_lt, ex_ifc_ge, ex_ifc_gt, ex_ifc_le, lget_cons0, lget_cons, lset1, lclr, isL, List.length_cons, List.length_nil, List.take, List.drop, List.take_zero, List.drop_zero, List.reverse_cons, List.reverse_nil, List.nil_append, List.cons_append, catS, Value.category, tl_some, tl_none, rf_some, rf_none, Int.toNat_natCast, Int.reduceToNat, Nat.reduceAdd, Nat.reduceLT, Nat.reduceLeDiff, Nat.reduceEqDiff, and_true, true_and, and_self, eq_self, reduceIte, false_and, and_false, Bool.false_eq_true, Bool.true_eq_false, or_true, true_or, or_false, false_or, not_true_eq_false, not_false_eq_true, ite_true, ite_false, if_true, if_false, linit, largs, List.replicate, Nat.reduceSub, Nat.sub_self, kim1000000000, kim2, kim1, ki0, ki1, ki2, ki3, ki4, ki5, ki6, ki7, ki8, ki9, ki10, ki12, ki15, ki16, ki20, ki24, ki30, ki32, ki33, ki38, ki40, ki41, ki42, ki43, ki44, ki45, ki46, ki47, ki48, ki50, ki52, ki57, ki58, ki59, ki60, ki61, ki62, ki63, ki91, ki93, ki97, ki99, ki100, ki102, ki108, ki109, ki110, ki111, ki116, ki119, ki120, ki121, ki124, ki128, ki200, ki240, ki255, ki480, ki680, ki999, ki1000, ki7776, ki252645135, ki858993459, ki1431655765, klm1000000000, klm1000000, klm1, kl0, kl1, kl2, kl3, kl4, kl5, kl12, kl60, kl99, kl999, kl1000, kl1000000, kl1000000000, kl4294967295, kl1442695040888963407, kl6364136223846793005, hK_sI, hN_sI, hI_sI, hL_sI, hR_sI, hZ_sI, hC_sI, hS_sI, hK_sL, hN_sL, hI_sL, hL_sL, hR_sL, hZ_sL, hC_sL, hS_sL, hK_sR, hN_sR, hI_sR, hL_sR, hR_sR, hZ_sR, hC_sR, hS_sR, hK_sA, hN_sA, hI_sA, hL_sA, hR_sA, hK_sLA, hN_sLA, hI_sLA, hL_sLA, hR_sLA, up2_at, vu_at, decide_true, decide_false, Bool.false_and, Bool.true_and, Bool.and_true, Bool.and_false, nI_ltN, nI_leN, nI_eqN, nI_eq0, nI_lt0N, nI_le0N, nI_gt0N, nI_le00N, nI_add, nI_mul, bB_0, bB_n, d_le, d_nle, d_lt, d_nlt, d_eq, d_ne, u_k0, u_k1, u_k4, u_k5, u_k7, u_k8, u_k11, u_k14, u_k21, u_k24, u_k33, u_k36, u_k37, u_k41, u_k45, u_k55, u_k66, u_k68, u_k70, u_k72, u_k74, b275_6, ex_sldN]
  refine ev_lawClause (D := D + 820) f p.1 cv.1 (fun G => ?_) (fun G => ?_)
  · have f1 : Fr (hPay h 1 6) := f
    have k0 : hK (hPay h 1 6) SCR = 0 := kS
    have k70 : hK (hPay h 1 6) 74 = 12 := u_k74 f
    have r1 : Rel (hPay h 1 6) := r.ag ⟨rfl, rfl, fun _ _ _ => ⟨rfl, rfl, rfl⟩⟩ f me
    have mq := fun Q => @m_clauseQ (D + 820) n (hPay h 1 6) Q (xs (i + 1)) (xs (i + 2)) f1 p.1 mv.1
    simp (disch := first | (simp only [Fr_sI, Fr_sL, Fr_sA, Fr_sLA]; assumption) | assumption | decide | omega | (simp only [List.length_cons, List.length_nil, List.drop_succ_cons, List.drop_zero, catS, Value.category, Nat.reduceAdd, Nat.reduceLT, Nat.reduceLeDiff, Nat.le_refl, and_self, and_true, true_and]; done) | (simp only [hK_sI, hN_sI, hK_sL, hN_sL, hK_sR, hN_sR, hK_sA, hN_sA, hK_sLA, hN_sLA]; first | assumption | omega)) only [ex_iadd, ex_isub, ex_imul, ex_iand, ex_ior, ex_ixor, ex_ishl, ex_ishr, ex_iushr, ex_ladd, ex_lsub, ex_lmul, ex_idiv, ex_irem, ex_ldiv, ex_lrem, ex_lshl, ex_lushr, ex_lcmp, ex_i2l, ex_l2i, ex_i2b, ex_iconst, ex_lconst, ex_null, ex_iload, ex_lload, ex_aload, ex_istore, ex_astore, ex_astoreN, ex_lstore, ex_iinc, ex_dup_int, ex_pop_int, ex_dup_ref, ex_pop_ref, ex_dup2l, ex_dup2ri, ex_pop2, ex_goto, ex_jsr, ex_ifnull, ex_ifnullN, ex_ifnn, ex_ifnnN, ex_calls, ex_callv, ex_ireturn, ex_zB, ex_z0, ex_z1, ex_lreturn, ex_vreturn, ex_obj, ex_icmp_eq, ex_icmp_ne, ex_icmp_lt, ex_icmp_ge, ex_icmp_gt, ex_icmp_le, ex_ifc_eq, ex_ifc_ne, ex_ifc_lt, ex_ifc_ge, ex_ifc_gt, ex_ifc_le, lget_cons0, lget_cons, lset1, lclr, isL, List.length_cons, List.length_nil, List.take, List.drop, List.take_zero, List.drop_zero, List.reverse_cons, List.reverse_nil, List.nil_append, List.cons_append, catS, Value.category, tl_some, tl_none, rf_some, rf_none, Int.toNat_natCast, Int.reduceToNat, Nat.reduceAdd, Nat.reduceLT, Nat.reduceLeDiff, Nat.reduceEqDiff, and_true, true_and, and_self, eq_self, reduceIte, false_and, and_false, Bool.false_eq_true, Bool.true_eq_false, or_true, true_or, or_false, false_or, not_true_eq_false, not_false_eq_true, ite_true, ite_false, if_true, if_false, linit, largs, List.replicate, Nat.reduceSub, Nat.sub_self, kim1000000000, kim2, kim1, ki0, ki1, ki2, ki3, ki4, ki5, ki6, ki7, ki8, ki9, ki10, ki12, ki15, ki16, ki20, ki24, ki30, ki32, ki33, ki38, ki40, ki41, ki42, ki43, ki44, ki45, ki46, ki47, ki48, ki50, ki52, ki57, ki58, ki59, ki60, ki61, ki62, ki63, ki91, ki93, ki97, ki99, ki100, ki102, ki108, ki109, ki110, ki111, ki116, ki119, ki120, ki121, ki124, ki128, ki200, ki240, ki255, ki480, ki680, ki999, ki1000, ki7776, ki252645135, ki858993459, ki1431655765, klm1000000000, klm1000000, klm1, kl0, kl1, kl2, kl3, kl4, kl5, kl12, kl60, kl99, kl999, kl1000, kl1000000, kl1000000000, kl4294967295, kl1442695040888963407, kl6364136223846793005, hK_sI, hN_sI, hI_sI, hL_sI, hR_sI, hZ_sI, hC_sI, hS_sI, hK_sL, hN_sL, hI_sL, hL_sL, hR_sL, hZ_sL, hC_sL, hS_sL, hK_sR, hN_sR, hI_sR, hL_sR, hR_sR, hZ_sR, hC_sR, hS_sR, hK_sA, hN_sA, hI_sA, hL_sA, hR_sA, hK_sLA, hN_sLA, hI_sLA, hL_sLA, hR_sLA, up2_at, vu_at, decide_true, decide_false, Bool.false_and, Bool.true_and, Bool.and_true, Bool.and_false, nI_ltN, nI_leN, nI_eqN, nI_eq0, nI_lt0N, nI_le0N, nI_gt0N, nI_le00N, nI_add, nI_mul, bB_0, bB_n, d_le, d_nle, d_lt, d_nlt, d_eq, d_ne, u_k0, u_k1, u_k4, u_k5, u_k7, u_k8, u_k11, u_k14, u_k21, u_k24, u_k33, u_k36, u_k37, u_k41, u_k45, u_k55, u_k66, u_k68, u_k70, u_k72, u_k74, ex_sldN, k70]
    refine mq _ (fun _ => ?_) (fun z => absurd z G)
    have f2 : Fr (sI (hPay h 1 6) 74 0 (nI 1)) := f
    have k72 : hK (sI (hPay h 1 6) 74 0 (nI 1)) 74 = 12 := k70
    have th1 := fun D Q => @ev_thrown D (sI (hPay h 1 6) 74 0 (nI 1)) Q f2
    have e0 : hI (sI (hPay h 1 6) 74 0 (nI 1)) 74 0 = nI 1 := by simp only [hK_sI, hN_sI, hI_sI, hL_sI, hR_sI, hZ_sI, hC_sI, hS_sI, hK_sL, hN_sL, hI_sL, hL_sL, hR_sL, hZ_sL, hC_sL, hS_sL, hK_sR, hN_sR, hI_sR, hL_sR, hR_sR, hZ_sR, hC_sR, hS_sR, hK_sA, hN_sA, hI_sA, hL_sA, hR_sA, hK_sLA, hN_sLA, hI_sLA, hL_sLA, hR_sLA, up2_at, vu_at]; simp
    rw [e0] at th1
    simp (disch := first | (simp only [Fr_sI, Fr_sL, Fr_sA, Fr_sLA]; assumption) | assumption | decide | omega | (simp only [List.length_cons, List.length_nil, List.drop_succ_cons, List.drop_zero, catS, Value.category, Nat.reduceAdd, Nat.reduceLT, Nat.reduceLeDiff, Nat.le_refl, and_self, and_true, true_and]; done) | (simp only [hK_sI, hN_sI, hK_sL, hN_sL, hK_sR, hN_sR, hK_sA, hN_sA, hK_sLA, hN_sLA]; first | assumption | omega)) only [ex_iadd, ex_isub, ex_imul, ex_iand, ex_ior, ex_ixor, ex_ishl, ex_ishr, ex_iushr, ex_ladd, ex_lsub, ex_lmul, ex_idiv, ex_irem, ex_ldiv, ex_lrem, ex_lshl, ex_lushr, ex_lcmp, ex_i2l, ex_l2i, ex_i2b, ex_iconst, ex_lconst, ex_null, ex_iload, ex_lload, ex_aload, ex_istore, ex_astore, ex_astoreN, ex_lstore, ex_iinc, ex_dup_int, ex_pop_int, ex_dup_ref, ex_pop_ref, ex_dup2l, ex_dup2ri, ex_pop2, ex_goto, ex_jsr, ex_ifnull, ex_ifnullN, ex_ifnn, ex_ifnnN, ex_calls, ex_callv, ex_ireturn, ex_zB, ex_z0, ex_z1, ex_lreturn, ex_vreturn, ex_obj, ex_icmp_eq, ex_icmp_ne, ex_icmp_lt, ex_icmp_ge, ex_icmp_gt, ex_icmp_le, ex_ifc_eq, ex_ifc_ne, ex_ifc_lt, ex_ifc_ge, ex_ifc_gt, ex_ifc_le, lget_cons0, lget_cons, lset1, lclr, isL, List.length_cons, List.length_nil, List.take, List.drop, List.take_zero, List.drop_zero, List.reverse_cons, List.reverse_nil, List.nil_append, List.cons_append, catS, Value.category, tl_some, tl_none, rf_some, rf_none, Int.toNat_natCast, Int.reduceToNat, Nat.reduceAdd, Nat.reduceLT, Nat.reduceLeDiff, Nat.reduceEqDiff, and_true, true_and, and_self, eq_self, reduceIte, false_and, and_false, Bool.false_eq_true, Bool.true_eq_false, or_true, true_or, or_false, false_or, not_true_eq_false, not_false_eq_true, ite_true, ite_false, if_true, if_false, linit, largs, List.replicate, Nat.reduceSub, Nat.sub_self, kim1000000000, kim2, kim1, ki0, ki1, ki2, ki3, ki4, ki5, ki6, ki7, ki8, ki9, ki10, ki12, ki15, ki16, ki20, ki24, ki30, ki32, ki33, ki38, ki40, ki41, ki42, ki43, ki44, ki45, ki46, ki47, ki48, ki50, ki52, ki57, ki58, ki59, ki60, ki61, ki62, ki63, ki91, ki93, ki97, ki99, ki100, ki102, ki108, ki109, ki110, ki111, ki116, ki119, ki120, ki121, ki124, ki128, ki200, ki240, ki255, ki480, ki680, ki999, ki1000, ki7776, ki252645135, ki858993459, ki1431655765, klm1000000000, klm1000000, klm1, kl0, kl1, kl2, kl3, kl4, kl5, kl12, kl60, kl99, kl999, kl1000, kl1000000, kl1000000000, kl4294967295, kl1442695040888963407, kl6364136223846793005, hK_sI, hN_sI, hI_sI, hL_sI, hR_sI, hZ_sI, hC_sI, hS_sI, hK_sL, hN_sL, hI_sL, hL_sL, hR_sL, hZ_sL, hC_sL, hS_sL, hK_sR, hN_sR, hI_sR, hL_sR, hR_sR, hZ_sR, hC_sR, hS_sR, hK_sA, hN_sA, hI_sA, hL_sA, hR_sA, hK_sLA, hN_sLA, hI_sLA, hL_sLA, hR_sLA, up2_at, vu_at, decide_true, decide_false, Bool.false_and, Bool.true_and, Bool.and_true, Bool.and_false, nI_ltN, nI_leN, nI_eqN, nI_eq0, nI_lt0N, nI_le0N, nI_gt0N, nI_le00N, nI_add, nI_mul, bB_0, bB_n, d_le, d_nle, d_lt, d_nlt, d_eq, d_ne, u_k0, u_k1, u_k4, u_k5, u_k7, u_k8, u_k11, u_k14, u_k21, u_k24, u_k33, u_k36, u_k37, u_k41, u_k45, u_k55, u_k66, u_k68, u_k70, u_k72, u_k74, b275_7, b275_8, b275_48, k70, th1]
    have w : Sm s92 (hPay h 1 6) (sI (hPay h 1 6) 74 0 (nI 1)) := (Sm.rf _ _).wI (a := 74) _ rfl
    exact nx _ _ _ (r1.ag (w.ag dj_92) f2 (r1.2.2.2.2.2.1.ag (w.ag dj_92e))) (Nat.le_refl _) (Nat.le_refl _)
  · generalize hv : (hI h 12 (6 * tN (xs (i + 1)) + tN (xs (i + 2)))).toInt64 = v
    have f1 : Fr (sL h 96 0 v) := f
    have k0 : hK (sL h 96 0 v) SCR = 0 := kS
    have k70 : hK (sL h 96 0 v) 74 = 12 := u_k74 f
    have mq := fun Q => @m_clauseQ (D + 820) n (sL h 96 0 v) Q (xs (i + 1)) (xs (i + 2)) f1 p.1 mv.1
    simp (disch := first | (simp only [Fr_sI, Fr_sL, Fr_sA, Fr_sLA]; assumption) | assumption | decide | omega | (simp only [List.length_cons, List.length_nil, List.drop_succ_cons, List.drop_zero, catS, Value.category, Nat.reduceAdd, Nat.reduceLT, Nat.reduceLeDiff, Nat.le_refl, and_self, and_true, true_and]; done) | (simp only [hK_sI, hN_sI, hK_sL, hN_sL, hK_sR, hN_sR, hK_sA, hN_sA, hK_sLA, hN_sLA]; first | assumption | omega)) only [ex_iadd, ex_isub, ex_imul, ex_iand, ex_ior, ex_ixor, ex_ishl, ex_ishr, ex_iushr, ex_ladd, ex_lsub, ex_lmul, ex_idiv, ex_irem, ex_ldiv, ex_lrem, ex_lshl, ex_lushr, ex_lcmp, ex_i2l, ex_l2i, ex_i2b, ex_iconst, ex_lconst, ex_null, ex_iload, ex_lload, ex_aload, ex_istore, ex_astore, ex_astoreN, ex_lstore, ex_iinc, ex_dup_int, ex_pop_int, ex_dup_ref, ex_pop_ref, ex_dup2l, ex_dup2ri, ex_pop2, ex_goto, ex_jsr, ex_ifnull, ex_ifnullN, ex_ifnn, ex_ifnnN, ex_calls, ex_callv, ex_ireturn, ex_zB, ex_z0, ex_z1, ex_lreturn, ex_vreturn, ex_obj, ex_icmp_eq, ex_icmp_ne, ex_icmp_lt, ex_icmp_ge, ex_icmp_gt, ex_icmp_le, ex_ifc_eq, ex_ifc_ne, ex_ifc_lt, ex_ifc_ge, ex_ifc_gt, ex_ifc_le, lget_cons0, lget_cons, lset1, lclr, isL, List.length_cons, List.length_nil, List.take, List.drop, List.take_zero, List.drop_zero, List.reverse_cons, List.reverse_nil, List.nil_append, List.cons_append, catS, Value.category, tl_some, tl_none, rf_some, rf_none, Int.toNat_natCast, Int.reduceToNat, Nat.reduceAdd, Nat.reduceLT, Nat.reduceLeDiff, Nat.reduceEqDiff, and_true, true_and, and_self, eq_self, reduceIte, false_and, and_false, Bool.false_eq_true, Bool.true_eq_false, or_true, true_or, or_false, false_or, not_true_eq_false, not_false_eq_true, ite_true, ite_false, if_true, if_false, linit, largs, List.replicate, Nat.reduceSub, Nat.sub_self, kim1000000000, kim2, kim1, ki0, ki1, ki2, ki3, ki4, ki5, ki6, ki7, ki8, ki9, ki10, ki12, ki15, ki16, ki20, ki24, ki30, ki32, ki33, ki38, ki40, ki41, ki42, ki43, ki44, ki45, ki46, ki47, ki48, ki50, ki52, ki57, ki58, ki59, ki60, ki61, ki62, ki63, ki91, ki93, ki97, ki99, ki100, ki102, ki108, ki109, ki110, ki111, ki116, ki119, ki120, ki121, ki124, ki128, ki200, ki240, ki255, ki480, ki680, ki999, ki1000, ki7776, ki252645135, ki858993459, ki1431655765, klm1000000000, klm1000000, klm1, kl0, kl1, kl2, kl3, kl4, kl5, kl12, kl60, kl99, kl999, kl1000, kl1000000, kl1000000000, kl4294967295, kl1442695040888963407, kl6364136223846793005, hK_sI, hN_sI, hI_sI, hL_sI, hR_sI, hZ_sI, hC_sI, hS_sI, hK_sL, hN_sL, hI_sL, hL_sL, hR_sL, hZ_sL, hC_sL, hS_sL, hK_sR, hN_sR, hI_sR, hL_sR, hR_sR, hZ_sR, hC_sR, hS_sR, hK_sA, hN_sA, hI_sA, hL_sA, hR_sA, hK_sLA, hN_sLA, hI_sLA, hL_sLA, hR_sLA, up2_at, vu_at, decide_true, decide_false, Bool.false_and, Bool.true_and, Bool.and_true, Bool.and_false, nI_ltN, nI_leN, nI_eqN, nI_eq0, nI_lt0N, nI_le0N, nI_gt0N, nI_le00N, nI_add, nI_mul, bB_0, bB_n, d_le, d_nle, d_lt, d_nlt, d_eq, d_ne, u_k0, u_k1, u_k4, u_k5, u_k7, u_k8, u_k11, u_k14, u_k21, u_k24, u_k33, u_k36, u_k37, u_k41, u_k45, u_k55, u_k66, u_k68, u_k70, u_k72, u_k74, ex_sldN, k70]
    refine mq _ (fun z => absurd G z) (fun _ => ?_)
    have f2 : Fr (sI (sL h 96 0 v) 74 0 (nI 0)) := f
    have th1 := fun D Q => @ev_thrown D (sI (sL h 96 0 v) 74 0 (nI 0)) Q f2
    have e0 : hI (sI (sL h 96 0 v) 74 0 (nI 0)) 74 0 = nI 0 := by simp only [hK_sI, hN_sI, hI_sI, hL_sI, hR_sI, hZ_sI, hC_sI, hS_sI, hK_sL, hN_sL, hI_sL, hL_sL, hR_sL, hZ_sL, hC_sL, hS_sL, hK_sR, hN_sR, hI_sR, hL_sR, hR_sR, hZ_sR, hC_sR, hS_sR, hK_sA, hN_sA, hI_sA, hL_sA, hR_sA, hK_sLA, hN_sLA, hI_sLA, hL_sLA, hR_sLA, up2_at, vu_at]; simp
    rw [e0] at th1
    have e75 : hI (sL h 96 0 v) 79 (6 * tN (xs (i + 1)) + tN (xs (i + 2))) = hI h 12 (6 * tN (xs (i + 1)) + tN (xs (i + 2))) := by
      obtain ⟨gx, gy⟩ := G
      obtain ⟨jx, bx, ex⟩ := dIn_get (by have := p.1; omega) gx
      obtain ⟨jy, by', ey⟩ := dIn_get (by decide) gy
      have n5 := p.1
      rw [ex, ey, tN_nI (by omega), tN_nI (by omega), cv.2.1 _ (by omega)]
      exact mv.2.1 _ (by omega)
    have k92 : hK (sI (sL h 96 0 v) 74 0 (nI 0)) 96 = 23 := kf f (by decide) rfl
    have n92 : hN (sI (sL h 96 0 v) 74 0 (nI 0)) 96 = 1 := nf f (by decide) rfl
    have l92 : hL (sI (sL h 96 0 v) 74 0 (nI 0)) 96 0 = v := by simp only [hK_sI, hN_sI, hI_sI, hL_sI, hR_sI, hZ_sI, hC_sI, hS_sI, hK_sL, hN_sL, hI_sL, hL_sL, hR_sL, hZ_sL, hC_sL, hS_sL, hK_sR, hN_sR, hI_sR, hL_sR, hR_sR, hZ_sR, hC_sR, hS_sR, hK_sA, hN_sA, hI_sA, hL_sA, hR_sA, hK_sLA, hN_sLA, hI_sLA, hL_sLA, hR_sLA, up2_at, vu_at]; simp
    have lcm : lg_cmp v v = 0 := by rw [lgc_eq]
    simp (disch := first | (simp only [Fr_sI, Fr_sL, Fr_sA, Fr_sLA]; assumption) | assumption | decide | omega | (simp only [List.length_cons, List.length_nil, List.drop_succ_cons, List.drop_zero, catS, Value.category, Nat.reduceAdd, Nat.reduceLT, Nat.reduceLeDiff, Nat.le_refl, and_self, and_true, true_and]; done) | (simp only [hK_sI, hN_sI, hK_sL, hN_sL, hK_sR, hN_sR, hK_sA, hN_sA, hK_sLA, hN_sLA]; first | assumption | omega)) only [ex_iadd, ex_isub, ex_imul, ex_iand, ex_ior, ex_ixor, ex_ishl, ex_ishr, ex_iushr, ex_ladd, ex_lsub, ex_lmul, ex_idiv, ex_irem, ex_ldiv, ex_lrem, ex_lshl, ex_lushr, ex_lcmp, ex_i2l, ex_l2i, ex_i2b, ex_iconst, ex_lconst, ex_null, ex_iload, ex_lload, ex_aload, ex_istore, ex_astore, ex_astoreN, ex_lstore, ex_iinc, ex_dup_int, ex_pop_int, ex_dup_ref, ex_pop_ref, ex_dup2l, ex_dup2ri, ex_pop2, ex_goto, ex_jsr, ex_ifnull, ex_ifnullN, ex_ifnn, ex_ifnnN, ex_calls, ex_callv, ex_ireturn, ex_zB, ex_z0, ex_z1, ex_lreturn, ex_vreturn, ex_obj, ex_icmp_eq, ex_icmp_ne, ex_icmp_lt, ex_icmp_ge, ex_icmp_gt, ex_icmp_le, ex_ifc_eq, ex_ifc_ne, ex_ifc_lt, ex_ifc_ge, ex_ifc_gt, ex_ifc_le, lget_cons0, lget_cons, lset1, lclr, isL, List.length_cons, List.length_nil, List.take, List.drop, List.take_zero, List.drop_zero, List.reverse_cons, List.reverse_nil, List.nil_append, List.cons_append, catS, Value.category, tl_some, tl_none, rf_some, rf_none, Int.toNat_natCast, Int.reduceToNat, Nat.reduceAdd, Nat.reduceLT, Nat.reduceLeDiff, Nat.reduceEqDiff, and_true, true_and, and_self, eq_self, reduceIte, false_and, and_false, Bool.false_eq_true, Bool.true_eq_false, or_true, true_or, or_false, false_or, not_true_eq_false, not_false_eq_true, ite_true, ite_false, if_true, if_false, linit, largs, List.replicate, Nat.reduceSub, Nat.sub_self, kim1000000000, kim2, kim1, ki0, ki1, ki2, ki3, ki4, ki5, ki6, ki7, ki8, ki9, ki10, ki12, ki15, ki16, ki20, ki24, ki30, ki32, ki33, ki38, ki40, ki41, ki42, ki43, ki44, ki45, ki46, ki47, ki48, ki50, ki52, ki57, ki58, ki59, ki60, ki61, ki62, ki63, ki91, ki93, ki97, ki99, ki100, ki102, ki108, ki109, ki110, ki111, ki116, ki119, ki120, ki121, ki124, ki128, ki200, ki240, ki255, ki480, ki680, ki999, ki1000, ki7776, ki252645135, ki858993459, ki1431655765, klm1000000000, klm1000000, klm1, kl0, kl1, kl2, kl3, kl4, kl5, kl12, kl60, kl99, kl999, kl1000, kl1000000, kl1000000000, kl4294967295, kl1442695040888963407, kl6364136223846793005, hK_sI, hN_sI, hI_sI, hL_sI, hR_sI, hZ_sI, hC_sI, hS_sI, hK_sL, hN_sL, hI_sL, hL_sL, hR_sL, hZ_sL, hC_sL, hS_sL, hK_sR, hN_sR, hI_sR, hL_sR, hR_sR, hZ_sR, hC_sR, hS_sR, hK_sA, hN_sA, hI_sA, hL_sA, hR_sA, hK_sLA, hN_sLA, hI_sLA, hL_sLA, hR_sLA, up2_at, vu_at, decide_true, decide_false, Bool.false_and, Bool.true_and, Bool.and_true, Bool.and_false, nI_ltN, nI_leN, nI_eqN, nI_eq0, nI_lt0N, nI_le0N, nI_gt0N, nI_le00N, nI_add, nI_mul, bB_0, bB_n, d_le, d_nle, d_lt, d_nlt, d_eq, d_ne, u_k0, u_k1, u_k4, u_k5, u_k7, u_k8, u_k11, u_k14, u_k21, u_k24, u_k33, u_k36, u_k37, u_k41, u_k45, u_k55, u_k66, u_k68, u_k70, u_k72, u_k74, b275_7, k70, th1, e75, hv]
    rw [ex_laldN (j := 0) k92 (by omega) (by omega), l92]
    simp (disch := first | (simp only [Fr_sI, Fr_sL, Fr_sA, Fr_sLA]; assumption) | assumption | decide | omega | (simp only [List.length_cons, List.length_nil, List.drop_succ_cons, List.drop_zero, catS, Value.category, Nat.reduceAdd, Nat.reduceLT, Nat.reduceLeDiff, Nat.le_refl, and_self, and_true, true_and]; done) | (simp only [hK_sI, hN_sI, hK_sL, hN_sL, hK_sR, hN_sR, hK_sA, hN_sA, hK_sLA, hN_sLA]; first | assumption | omega)) only [ex_iadd, ex_isub, ex_imul, ex_iand, ex_ior, ex_ixor, ex_ishl, ex_ishr, ex_iushr, ex_ladd, ex_lsub, ex_lmul, ex_idiv, ex_irem, ex_ldiv, ex_lrem, ex_lshl, ex_lushr, ex_lcmp, ex_i2l, ex_l2i, ex_i2b, ex_iconst, ex_lconst, ex_null, ex_iload, ex_lload, ex_aload, ex_istore, ex_astore, ex_astoreN, ex_lstore, ex_iinc, ex_dup_int, ex_pop_int, ex_dup_ref, ex_pop_ref, ex_dup2l, ex_dup2ri, ex_pop2, ex_goto, ex_jsr, ex_ifnull, ex_ifnullN, ex_ifnn, ex_ifnnN, ex_calls, ex_callv, ex_ireturn, ex_zB, ex_z0, ex_z1, ex_lreturn, ex_vreturn, ex_obj, ex_icmp_eq, ex_icmp_ne, ex_icmp_lt, ex_icmp_ge, ex_icmp_gt, ex_icmp_le, ex_ifc_eq, ex_ifc_ne, ex_ifc_lt, ex_ifc_ge, ex_ifc_gt, ex_ifc_le, lget_cons0, lget_cons, lset1, lclr, isL, List.length_cons, List.length_nil, List.take, List.drop, List.take_zero, List.drop_zero, List.reverse_cons, List.reverse_nil, List.nil_append, List.cons_append, catS, Value.category, tl_some, tl_none, rf_some, rf_none, Int.toNat_natCast, Int.reduceToNat, Nat.reduceAdd, Nat.reduceLT, Nat.reduceLeDiff, Nat.reduceEqDiff, and_true, true_and, and_self, eq_self, reduceIte, false_and, and_false, Bool.false_eq_true, Bool.true_eq_false, or_true, true_or, or_false, false_or, not_true_eq_false, not_false_eq_true, ite_true, ite_false, if_true, if_false, linit, largs, List.replicate, Nat.reduceSub, Nat.sub_self, kim1000000000, kim2, kim1, ki0, ki1, ki2, ki3, ki4, ki5, ki6, ki7, ki8, ki9, ki10, ki12, ki15, ki16, ki20, ki24, ki30, ki32, ki33, ki38, ki40, ki41, ki42, ki43, ki44, ki45, ki46, ki47, ki48, ki50, ki52, ki57, ki58, ki59, ki60, ki61, ki62, ki63, ki91, ki93, ki97, ki99, ki100, ki102, ki108, ki109, ki110, ki111, ki116, ki119, ki120, ki121, ki124, ki128, ki200, ki240, ki255, ki480, ki680, ki999, ki1000, ki7776, ki252645135, ki858993459, ki1431655765, klm1000000000, klm1000000, klm1, kl0, kl1, kl2, kl3, kl4, kl5, kl12, kl60, kl99, kl999, kl1000, kl1000000, kl1000000000, kl4294967295, kl1442695040888963407, kl6364136223846793005, hK_sI, hN_sI, hI_sI, hL_sI, hR_sI, hZ_sI, hC_sI, hS_sI, hK_sL, hN_sL, hI_sL, hL_sL, hR_sL, hZ_sL, hC_sL, hS_sL, hK_sR, hN_sR, hI_sR, hL_sR, hR_sR, hZ_sR, hC_sR, hS_sR, hK_sA, hN_sA, hI_sA, hL_sA, hR_sA, hK_sLA, hN_sLA, hI_sLA, hL_sLA, hR_sLA, up2_at, vu_at, decide_true, decide_false, Bool.false_and, Bool.true_and, Bool.and_true, Bool.and_false, nI_ltN, nI_leN, nI_eqN, nI_eq0, nI_lt0N, nI_le0N, nI_gt0N, nI_le00N, nI_add, nI_mul, bB_0, bB_n, d_le, d_nle, d_lt, d_nlt, d_eq, d_ne, u_k0, u_k1, u_k4, u_k5, u_k7, u_k8, u_k11, u_k14, u_k21, u_k24, u_k33, u_k36, u_k37, u_k41, u_k45, u_k55, u_k66, u_k68, u_k70, u_k72, u_k74, b275_8, b275_48, hv, lcm]
    have w : Sm s92 h (sI (sL h 96 0 v) 74 0 (nI 0)) := ((Sm.rf _ h).wL (a := 96) _ rfl).wI (a := 74) _ rfl
    exact nx _ _ _ (r.ag (w.ag dj_92) f2 (me.ag (w.ag dj_92e))) (Nat.le_succ _) (Nat.le_add_right _ _)
theorem ex_slenN {sc : Option (Nat × (Nat → Int32))} {k z : Nat} {is : List XI} {ls : LL} {st : List Value} (hk : hK h SCR = 0) : Ex (some (L, xs)) D k ((.arraylength, z) :: is) ls (.ref SCR :: st) h Q = Ex (some (L, xs)) D k is ls (.int (nI L) :: st) h Q := ex_slen hk
set_option maxHeartbeats 4000000 in
theorem law_loop (L4 : L ≤ 4096) : ∀ k i h w5 w6, L ≤ i + k → i ≤ L → Rel h → hC h ≤ 97 + i → hS h ≤ 30000 + 6 * i → Ex (some (L, xs)) (D + 830) 275 (blk 275 1) [some (.ref SCR), some (.ref 0), some (.ref 74), some (.ref 96), some (.int (nI i)), w5, w6] [] h (fun v h1 => v = some (.int 1) ∧ hC h1 ≤ 97 + L ∧ hS h1 ≤ 30000 + 6 * L) := by
  intro k
  induction k using Nat.strongRecOn with
  | _ k ih =>
    intro i h w5 w6 hk hi r c1 s1
    have f := r.1
    have kS : hK h SCR = 0 := f.2.2
    have e8 : (nI L - nI 8).toInt = (L : Int) - 8 := pk_sub_toInt (by omega) (by omega)
    rw [b275_1]
    by_cases q : L < i + 8
    · have e : (nI L - nI 8 < nI i) = True := eq_true (Int32.lt_iff_toInt_lt.mpr (by rw [e8, nI_toInt (by omega)]; omega))
      simp (disch := first | (simp only [Fr_sI, Fr_sL, Fr_sA, Fr_sLA]; assumption) | assumption | decide | omega | (simp only [List.length_cons, List.length_nil, List.drop_succ_cons, List.drop_zero, catS, Value.category, Nat.reduceAdd, Nat.reduceLT, Nat.reduceLeDiff, Nat.le_refl, and_self, and_true, true_and]; done) | (simp only [hK_sI, hN_sI, hK_sL, hN_sL, hK_sR, hN_sR, hK_sA, hN_sA, hK_sLA, hN_sLA]; first | assumption | omega)) only [ex_iadd, ex_isub, ex_imul, ex_iand, ex_ior, ex_ixor, ex_ishl, ex_ishr, ex_iushr, ex_ladd, ex_lsub, ex_lmul, ex_idiv, ex_irem, ex_ldiv, ex_lrem, ex_lshl, ex_lushr, ex_lcmp, ex_i2l, ex_l2i, ex_i2b, ex_iconst, ex_lconst, ex_null, ex_iload, ex_lload, ex_aload, ex_istore, ex_astore, ex_astoreN, ex_lstore, ex_iinc, ex_dup_int, ex_pop_int, ex_dup_ref, ex_pop_ref, ex_dup2l, ex_dup2ri, ex_pop2, ex_goto, ex_jsr, ex_ifnull, ex_ifnullN, ex_ifnn, ex_ifnnN, ex_calls, ex_callv, ex_ireturn, ex_zB, ex_z0, ex_z1, ex_lreturn, ex_vreturn, ex_obj, ex_icmp_eq, ex_icmp_ne, ex_icmp_lt, ex_icmp_ge, ex_icmp_gt, ex_icmp_le, ex_ifc_eq, ex_ifc_ne, ex_ifc_lt, ex_ifc_ge, ex_ifc_gt, ex_ifc_le, lget_cons0, lget_cons, lset1, lclr, isL, List.length_cons, List.length_nil, List.take, List.drop, List.take_zero, List.drop_zero, List.reverse_cons, List.reverse_nil, List.nil_append, List.cons_append, catS, Value.category, tl_some, tl_none, rf_some, rf_none, Int.toNat_natCast, Int.reduceToNat, Nat.reduceAdd, Nat.reduceLT, Nat.reduceLeDiff, Nat.reduceEqDiff, and_true, true_and, and_self, eq_self, reduceIte, false_and, and_false, Bool.false_eq_true, Bool.true_eq_false, or_true, true_or, or_false, false_or, not_true_eq_false, not_false_eq_true, ite_true, ite_false, if_true, if_false, linit, largs, List.replicate, Nat.reduceSub, Nat.sub_self, kim1000000000, kim2, kim1, ki0, ki1, ki2, ki3, ki4, ki5, ki6, ki7, ki8, ki9, ki10, ki12, ki15, ki16, ki20, ki24, ki30, ki32, ki33, ki38, ki40, ki41, ki42, ki43, ki44, ki45, ki46, ki47, ki48, ki50, ki52, ki57, ki58, ki59, ki60, ki61, ki62, ki63, ki91, ki93, ki97, ki99, ki100, ki102, ki108, ki109, ki110, ki111, ki116, ki119, ki120, ki121, ki124, ki128, ki200, ki240, ki255, ki480, ki680, ki999, ki1000, ki7776, ki252645135, ki858993459, ki1431655765, klm1000000000, klm1000000, klm1, kl0, kl1, kl2, kl3, kl4, kl5, kl12, kl60, kl99, kl999, kl1000, kl1000000, kl1000000000, kl4294967295, kl1442695040888963407, kl6364136223846793005, hK_sI, hN_sI, hI_sI, hL_sI, hR_sI, hZ_sI, hC_sI, hS_sI, hK_sL, hN_sL, hI_sL, hL_sL, hR_sL, hZ_sL, hC_sL, hS_sL, hK_sR, hN_sR, hI_sR, hL_sR, hR_sR, hZ_sR, hC_sR, hS_sR, hK_sA, hN_sA, hI_sA, hL_sA, hR_sA, hK_sLA, hN_sLA, hI_sLA, hL_sLA, hR_sLA, up2_at, vu_at, decide_true, decide_false, Bool.false_and, Bool.true_and, Bool.and_true, Bool.and_false, nI_ltN, nI_leN, nI_eqN, nI_eq0, nI_lt0N, nI_le0N, nI_gt0N, nI_le00N, nI_add, nI_mul, bB_0, bB_n, d_le, d_nle, d_lt, d_nlt, d_eq, d_ne, u_k0, u_k1, u_k4, u_k5, u_k7, u_k8, u_k11, u_k14, u_k21, u_k24, u_k33, u_k36, u_k37, u_k41, u_k45, u_k55, u_k66, u_k68, u_k70, u_k72, u_k74, b275_49, ex_slen (xs := xs) kS, show Int32.ofNat L = nI L from rfl, e]
      first | exact ⟨rfl, by omega, by omega⟩ | exact rfl
    · have e : (nI L - nI 8 < nI i) = False := eq_false (fun z => by
        have z := Int32.lt_iff_toInt_lt.mp z
        rw [e8, nI_toInt (by omega)] at z
        omega)
      have nx : nxL L xs (D + 830) i h (fun v h1 => v = some (.int 1) ∧ hC h1 ≤ 97 + L ∧ hS h1 ≤ 30000 + 6 * L) := fun h2 w5 w6 r2 c2 s2 => ih (k - 8) (by omega) (i + 8) h2 w5 w6 (by omega) (by omega) r2 (by omega) (by omega)
      obtain ⟨t, ht, et⟩ := pk_andE (xs i) (m := nI 63) 6 (by decide)
      have iL : i + 8 ≤ L := by omega
      simp (disch := first | (simp only [Fr_sI, Fr_sL, Fr_sA, Fr_sLA]; assumption) | assumption | decide | omega | (simp only [List.length_cons, List.length_nil, List.drop_succ_cons, List.drop_zero, catS, Value.category, Nat.reduceAdd, Nat.reduceLT, Nat.reduceLeDiff, Nat.le_refl, and_self, and_true, true_and]; done) | (simp only [hK_sI, hN_sI, hK_sL, hN_sL, hK_sR, hN_sR, hK_sA, hN_sA, hK_sLA, hN_sLA]; first | assumption | omega)) only [ex_iadd, ex_isub, ex_imul, ex_iand, ex_ior, ex_ixor, ex_ishl, ex_ishr, ex_iushr, ex_ladd, ex_lsub, ex_lmul, ex_idiv, ex_irem, ex_ldiv, ex_lrem, ex_lshl, ex_lushr, ex_lcmp, ex_i2l, ex_l2i, ex_i2b, ex_iconst, ex_lconst, ex_null, ex_iload, ex_lload, ex_aload, ex_istore, ex_astore, ex_astoreN, ex_lstore, ex_iinc, ex_dup_int, ex_pop_int, ex_dup_ref, ex_pop_ref, ex_dup2l, ex_dup2ri, ex_pop2, ex_goto, ex_jsr, ex_ifnull, ex_ifnullN, ex_ifnn, ex_ifnnN, ex_calls, ex_callv, ex_ireturn, ex_zB, ex_z0, ex_z1, ex_lreturn, ex_vreturn, ex_obj, ex_icmp_eq, ex_icmp_ne, ex_icmp_lt, ex_icmp_ge, ex_icmp_gt, ex_icmp_le, ex_ifc_eq, ex_ifc_ne, ex_ifc_lt, ex_ifc_ge, ex_ifc_gt, ex_ifc_le, lget_cons0, lget_cons, lset1, lclr, isL, List.length_cons, List.length_nil, List.take, List.drop, List.take_zero, List.drop_zero, List.reverse_cons, List.reverse_nil, List.nil_append, List.cons_append, catS, Value.category, tl_some, tl_none, rf_some, rf_none, Int.toNat_natCast, Int.reduceToNat, Nat.reduceAdd, Nat.reduceLT, Nat.reduceLeDiff, Nat.reduceEqDiff, and_true, true_and, and_self, eq_self, reduceIte, false_and, and_false, Bool.false_eq_true, Bool.true_eq_false, or_true, true_or, or_false, false_or, not_true_eq_false, not_false_eq_true, ite_true, ite_false, if_true, if_false, linit, largs, List.replicate, Nat.reduceSub, Nat.sub_self, kim1000000000, kim2, kim1, ki0, ki1, ki2, ki3, ki4, ki5, ki6, ki7, ki8, ki9, ki10, ki12, ki15, ki16, ki20, ki24, ki30, ki32, ki33, ki38, ki40, ki41, ki42, ki43, ki44, ki45, ki46, ki47, ki48, ki50, ki52, ki57, ki58, ki59, ki60, ki61, ki62, ki63, ki91, ki93, ki97, ki99, ki100, ki102, ki108, ki109, ki110, ki111, ki116, ki119, ki120, ki121, ki124, ki128, ki200, ki240, ki255, ki480, ki680, ki999, ki1000, ki7776, ki252645135, ki858993459, ki1431655765, klm1000000000, klm1000000, klm1, kl0, kl1, kl2, kl3, kl4, kl5, kl12, kl60, kl99, kl999, kl1000, kl1000000, kl1000000000, kl4294967295, kl1442695040888963407, kl6364136223846793005, hK_sI, hN_sI, hI_sI, hL_sI, hR_sI, hZ_sI, hC_sI, hS_sI, hK_sL, hN_sL, hI_sL, hL_sL, hR_sL, hZ_sL, hC_sL, hS_sL, hK_sR, hN_sR, hI_sR, hL_sR, hR_sR, hZ_sR, hC_sR, hS_sR, hK_sA, hN_sA, hI_sA, hL_sA, hR_sA, hK_sLA, hN_sLA, hI_sLA, hL_sLA, hR_sLA, up2_at, vu_at, decide_true, decide_false, Bool.false_and, Bool.true_and, Bool.and_true, Bool.and_false, nI_ltN, nI_leN, nI_eqN, nI_eq0, nI_lt0N, nI_le0N, nI_gt0N, nI_le00N, nI_add, nI_mul, bB_0, bB_n, d_le, d_nle, d_lt, d_nlt, d_eq, d_ne, u_k0, u_k1, u_k4, u_k5, u_k7, u_k8, u_k11, u_k14, u_k21, u_k24, u_k33, u_k36, u_k37, u_k41, u_k45, u_k55, u_k66, u_k68, u_k70, u_k72, u_k74, ex_slen (xs := xs) kS, show Int32.ofNat L = nI L from rfl, e, ex_sldN, et]
      by_cases big : 43 < t
      · rw [tswO (Or.inr (by rw [nI_toInt (by omega)]; omega))]
        simp (disch := first | (simp only [Fr_sI, Fr_sL, Fr_sA, Fr_sLA]; assumption) | assumption | decide | omega | (simp only [List.length_cons, List.length_nil, List.drop_succ_cons, List.drop_zero, catS, Value.category, Nat.reduceAdd, Nat.reduceLT, Nat.reduceLeDiff, Nat.le_refl, and_self, and_true, true_and]; done) | (simp only [hK_sI, hN_sI, hK_sL, hN_sL, hK_sR, hN_sR, hK_sA, hN_sA, hK_sLA, hN_sLA]; first | assumption | omega)) only [ex_iadd, ex_isub, ex_imul, ex_iand, ex_ior, ex_ixor, ex_ishl, ex_ishr, ex_iushr, ex_ladd, ex_lsub, ex_lmul, ex_idiv, ex_irem, ex_ldiv, ex_lrem, ex_lshl, ex_lushr, ex_lcmp, ex_i2l, ex_l2i, ex_i2b, ex_iconst, ex_lconst, ex_null, ex_iload, ex_lload, ex_aload, ex_istore, ex_astore, ex_astoreN, ex_lstore, ex_iinc, ex_dup_int, ex_pop_int, ex_dup_ref, ex_pop_ref, ex_dup2l, ex_dup2ri, ex_pop2, ex_goto, ex_jsr, ex_ifnull, ex_ifnullN, ex_ifnn, ex_ifnnN, ex_calls, ex_callv, ex_ireturn, ex_zB, ex_z0, ex_z1, ex_lreturn, ex_vreturn, ex_obj, ex_icmp_eq, ex_icmp_ne, ex_icmp_lt, ex_icmp_ge, ex_icmp_gt, ex_icmp_le, ex_ifc_eq, ex_ifc_ne, ex_ifc_lt, ex_ifc_ge, ex_ifc_gt, ex_ifc_le, lget_cons0, lget_cons, lset1, lclr, isL, List.length_cons, List.length_nil, List.take, List.drop, List.take_zero, List.drop_zero, List.reverse_cons, List.reverse_nil, List.nil_append, List.cons_append, catS, Value.category, tl_some, tl_none, rf_some, rf_none, Int.toNat_natCast, Int.reduceToNat, Nat.reduceAdd, Nat.reduceLT, Nat.reduceLeDiff, Nat.reduceEqDiff, and_true, true_and, and_self, eq_self, reduceIte, false_and, and_false, Bool.false_eq_true, Bool.true_eq_false, or_true, true_or, or_false, false_or, not_true_eq_false, not_false_eq_true, ite_true, ite_false, if_true, if_false, linit, largs, List.replicate, Nat.reduceSub, Nat.sub_self, kim1000000000, kim2, kim1, ki0, ki1, ki2, ki3, ki4, ki5, ki6, ki7, ki8, ki9, ki10, ki12, ki15, ki16, ki20, ki24, ki30, ki32, ki33, ki38, ki40, ki41, ki42, ki43, ki44, ki45, ki46, ki47, ki48, ki50, ki52, ki57, ki58, ki59, ki60, ki61, ki62, ki63, ki91, ki93, ki97, ki99, ki100, ki102, ki108, ki109, ki110, ki111, ki116, ki119, ki120, ki121, ki124, ki128, ki200, ki240, ki255, ki480, ki680, ki999, ki1000, ki7776, ki252645135, ki858993459, ki1431655765, klm1000000000, klm1000000, klm1, kl0, kl1, kl2, kl3, kl4, kl5, kl12, kl60, kl99, kl999, kl1000, kl1000000, kl1000000000, kl4294967295, kl1442695040888963407, kl6364136223846793005, hK_sI, hN_sI, hI_sI, hL_sI, hR_sI, hZ_sI, hC_sI, hS_sI, hK_sL, hN_sL, hI_sL, hL_sL, hR_sL, hZ_sL, hC_sL, hS_sL, hK_sR, hN_sR, hI_sR, hL_sR, hR_sR, hZ_sR, hC_sR, hS_sR, hK_sA, hN_sA, hI_sA, hL_sA, hR_sA, hK_sLA, hN_sLA, hI_sLA, hL_sLA, hR_sLA, up2_at, vu_at, decide_true, decide_false, Bool.false_and, Bool.true_and, Bool.and_true, Bool.and_false, nI_ltN, nI_leN, nI_eqN, nI_eq0, nI_lt0N, nI_le0N, nI_gt0N, nI_le00N, nI_add, nI_mul, bB_0, bB_n, d_le, d_nle, d_lt, d_nlt, d_eq, d_ne, u_k0, u_k1, u_k4, u_k5, u_k7, u_k8, u_k11, u_k14, u_k21, u_k24, u_k33, u_k36, u_k37, u_k41, u_k45, u_k55, u_k66, u_k68, u_k70, u_k72, u_k74, b275_48]
        exact nx h _ _ r (by omega) (by omega)
      have hoff : ∀ b : Int, (#[2, 3, 4, 5, 6, 9, 10, 11, 12, 13, 14, 15, 16, 17, 18, 19, 20, 21, 22, 23, 24, 25, 26, 27, 28, 29, 30, 31, 32, 33, 34, 35, 36, 37, 38, 39, 40, 41, 42, 43, 44, 45, 46, 47] : Array Int)[t]? = some b → (#[2, 3, 4, 5, 6, 9, 10, 11, 12, 13, 14, 15, 16, 17, 18, 19, 20, 21, 22, 23, 24, 25, 26, 27, 28, 29, 30, 31, 32, 33, 34, 35, 36, 37, 38, 39, 40, 41, 42, 43, 44, 45, 46, 47] : Array Int)[((nI t).toInt - 0).toNat]? = some b := fun b hb => by
        rw [nI_toInt (by omega), show ((t : Int) - 0).toNat = t from by omega]
        exact hb
      have hin : ¬ ((nI t).toInt < 0 ∨ 43 < (nI t).toInt) := by rw [nI_toInt (by omega)]; omega
      by_cases t0 : t = 0
      · rw [tsw 2 hin (hoff 2 (by rw [t0]; rfl))]
        exact lcs_2 r iL L4 nx
      by_cases t1 : t = 1
      · rw [tsw 3 hin (hoff 3 (by rw [t1]; rfl))]
        exact lcs_3 r iL L4 nx
      by_cases t2 : t = 2
      · rw [tsw 4 hin (hoff 4 (by rw [t2]; rfl))]
        exact lcs_4 r iL L4 nx
      by_cases t3 : t = 3
      · rw [tsw 5 hin (hoff 5 (by rw [t3]; rfl))]
        exact lcs_5 r iL L4 nx
      by_cases t4 : t = 4
      · rw [tsw 6 hin (hoff 6 (by rw [t4]; rfl))]
        exact lcs_6 r iL L4 nx
      by_cases t5 : t = 5
      · rw [tsw 9 hin (hoff 9 (by rw [t5]; rfl))]
        exact lcs_9 r iL L4 nx
      by_cases t6 : t = 6
      · rw [tsw 10 hin (hoff 10 (by rw [t6]; rfl))]
        exact lcs_10 r iL L4 nx
      by_cases t7 : t = 7
      · rw [tsw 11 hin (hoff 11 (by rw [t7]; rfl))]
        exact lcs_11 r iL L4 nx
      by_cases t8 : t = 8
      · rw [tsw 12 hin (hoff 12 (by rw [t8]; rfl))]
        exact lcs_12 r iL L4 nx
      by_cases t9 : t = 9
      · rw [tsw 13 hin (hoff 13 (by rw [t9]; rfl))]
        exact lcs_13 r iL L4 nx
      by_cases t10 : t = 10
      · rw [tsw 14 hin (hoff 14 (by rw [t10]; rfl))]
        exact lcs_14 r iL L4 nx
      by_cases t11 : t = 11
      · rw [tsw 15 hin (hoff 15 (by rw [t11]; rfl))]
        exact lcs_15 r iL L4 nx
      by_cases t12 : t = 12
      · rw [tsw 16 hin (hoff 16 (by rw [t12]; rfl))]
        exact lcs_16 r iL L4 nx
      by_cases t13 : t = 13
      · rw [tsw 17 hin (hoff 17 (by rw [t13]; rfl))]
        exact lcs_17 r iL L4 nx
      by_cases t14 : t = 14
      · rw [tsw 18 hin (hoff 18 (by rw [t14]; rfl))]
        exact lcs_18 r iL L4 nx
      by_cases t15 : t = 15
      · rw [tsw 19 hin (hoff 19 (by rw [t15]; rfl))]
        exact lcs_19 r iL L4 nx
      by_cases t16 : t = 16
      · rw [tsw 20 hin (hoff 20 (by rw [t16]; rfl))]
        exact lcs_20 r iL L4 nx
      by_cases t17 : t = 17
      · rw [tsw 21 hin (hoff 21 (by rw [t17]; rfl))]
        exact lcs_21 r iL L4 nx
      by_cases t18 : t = 18
      · rw [tsw 22 hin (hoff 22 (by rw [t18]; rfl))]
        exact lcs_22 r iL L4 nx
      by_cases t19 : t = 19
      · rw [tsw 23 hin (hoff 23 (by rw [t19]; rfl))]
        exact lcs_23 r iL L4 nx
      by_cases t20 : t = 20
      · rw [tsw 24 hin (hoff 24 (by rw [t20]; rfl))]
        exact lcs_24 r iL L4 nx
      by_cases t21 : t = 21
      · rw [tsw 25 hin (hoff 25 (by rw [t21]; rfl))]
        exact lcs_25 r iL L4 nx
      by_cases t22 : t = 22
      · rw [tsw 26 hin (hoff 26 (by rw [t22]; rfl))]
        exact lcs_26 r iL L4 nx
      by_cases t23 : t = 23
      · rw [tsw 27 hin (hoff 27 (by rw [t23]; rfl))]
        exact lcs_27 r iL L4 nx
      by_cases t24 : t = 24
      · rw [tsw 28 hin (hoff 28 (by rw [t24]; rfl))]
        exact lcs_28 r iL L4 nx
      by_cases t25 : t = 25
      · rw [tsw 29 hin (hoff 29 (by rw [t25]; rfl))]
        exact lcs_29 r iL L4 nx
      by_cases t26 : t = 26
      · rw [tsw 30 hin (hoff 30 (by rw [t26]; rfl))]
        exact lcs_30 r iL L4 nx
      by_cases t27 : t = 27
      · rw [tsw 31 hin (hoff 31 (by rw [t27]; rfl))]
        exact lcs_31 r iL L4 nx
      by_cases t28 : t = 28
      · rw [tsw 32 hin (hoff 32 (by rw [t28]; rfl))]
        exact lcs_32 r iL L4 nx
      by_cases t29 : t = 29
      · rw [tsw 33 hin (hoff 33 (by rw [t29]; rfl))]
        exact lcs_33 r iL L4 nx
      by_cases t30 : t = 30
      · rw [tsw 34 hin (hoff 34 (by rw [t30]; rfl))]
        exact lcs_34 r iL L4 nx
      by_cases t31 : t = 31
      · rw [tsw 35 hin (hoff 35 (by rw [t31]; rfl))]
        exact lcs_35 r iL L4 nx
      by_cases t32 : t = 32
      · rw [tsw 36 hin (hoff 36 (by rw [t32]; rfl))]
        exact lcs_36 r iL L4 nx
      by_cases t33 : t = 33
      · rw [tsw 37 hin (hoff 37 (by rw [t33]; rfl))]
        exact lcs_37 r iL L4 nx
      by_cases t34 : t = 34
      · rw [tsw 38 hin (hoff 38 (by rw [t34]; rfl))]
        exact lcs_38 r iL L4 nx
      by_cases t35 : t = 35
      · rw [tsw 39 hin (hoff 39 (by rw [t35]; rfl))]
        exact lcs_39 r iL L4 nx
      by_cases t36 : t = 36
      · rw [tsw 40 hin (hoff 40 (by rw [t36]; rfl))]
        exact lcs_40 r iL L4 nx
      by_cases t37 : t = 37
      · rw [tsw 41 hin (hoff 41 (by rw [t37]; rfl))]
        exact lcs_41 r iL L4 nx
      by_cases t38 : t = 38
      · rw [tsw 42 hin (hoff 42 (by rw [t38]; rfl))]
        exact lcs_42 r iL L4 nx
      by_cases t39 : t = 39
      · rw [tsw 43 hin (hoff 43 (by rw [t39]; rfl))]
        exact lcs_43 r iL L4 nx
      by_cases t40 : t = 40
      · rw [tsw 44 hin (hoff 44 (by rw [t40]; rfl))]
        exact lcs_44 r iL L4 nx
      by_cases t41 : t = 41
      · rw [tsw 45 hin (hoff 45 (by rw [t41]; rfl))]
        exact lcs_45 r iL L4 nx
      by_cases t42 : t = 42
      · rw [tsw 46 hin (hoff 46 (by rw [t42]; rfl))]
        exact lcs_46 r iL L4 nx
      by_cases t43 : t = 43
      · rw [tsw 47 hin (hoff 47 (by rw [t43]; rfl))]
        exact lcs_47 r iL L4 nx
      omega
end
/-! the start -/
def sgn0 (q : Nat × Nat) : Bool := (List.range q.2).all (fun j => decide (hI hJ q.1 j = nI 0))
set_option maxRecDepth 100000 in
theorem zI1 : [(0, 11), (1, 2), (7, 5), (10, 6), (11, 1), (12, 30), (13, 30), (14, 4), (74, 53), (79, 30), (81, 30)].all sgn0 = true := by decide +kernel
set_option maxRecDepth 100000 in
theorem zI2 : [(15, 200), (16, 200), (17, 40), (18, 240), (86, 200), (87, 200), (88, 40)].all sgn0 = true := by decide +kernel
set_option maxRecDepth 100000 in
theorem zI3 : ∀ j, j < 6 → hI hJ 31 j = hI hJ 82 j := by decide +kernel
set_option maxRecDepth 100000 in
theorem zL1 : hL hJ 14 0 = 0 ∧ hL hJ 74 31 = 0 ∧ (∀ j, j < 40 → hL hJ 19 j = 0) ∧ ∀ j, j < 40 → hL hJ 89 j = 0 := by decide +kernel
theorem zI_at {l : List (Nat × Nat)} (hl : l.all sgn0 = true) {a m j : Nat} (hm : (a, m) ∈ l) (hj : j < m) : hI hJ a j = nI 0 := of_decide_eq_true (List.all_eq_true.mp (List.all_eq_true.mp hl (a, m) hm) j (List.mem_range.mpr hj))
theorem FrJ : Fr hJ := ⟨kJ, fun q hq => of_decide_eq_true (List.all_eq_true.mp rJ q hq), zJ.2.1⟩
theorem RelJ : Rel hJ := by
  refine ⟨FrJ, ⟨(0, fun _ => 0), ⟨Nat.zero_le _, zI_at zI1 (a := 1) (m := 2) (by decide) (by decide), fun j hj => absurd hj (Nat.not_lt_zero j)⟩, ⟨Nat.zero_le _, zI_at zI1 (a := 74) (m := 53) (by decide) (by decide), fun j hj => absurd hj (Nat.not_lt_zero j)⟩⟩, ⟨0, fun _ => 0, fun _ _ => 0, by decide, zI_at zI1 (a := 0) (m := 11) (by decide) (by decide), zI_at zI1 (a := 74) (m := 53) (by decide) (by decide), fun i hi => absurd hi (Nat.not_lt_zero i)⟩, zI3, ⟨zI_at zI1 (a := 7) (m := 5) (by decide) (by decide), fun i hi => ?_⟩, ⟨0, by decide, zI_at zI1 (a := 74) (m := 53) (by decide) (by decide)⟩, Or.inl ⟨zI_at zI1 (a := 0) (m := 11) (by decide) (by decide), zI_at zI1 (a := 74) (m := 53) (by decide) (by decide)⟩, 0, 0, 0, fun _ => 0, fun _ => 0, fun _ => 0, fun _ => 0, fun _ => 0, fun _ => 0, fun _ => 0, fun _ => 0, fun _ => 0, 0, fun _ => 0, ?_, ?_, ?_⟩
  · show okv (hI hJ 10 i)
    rw [zI_at zI1 (a := 10) (m := 6) (by decide) hi]
    exact okv_nI (by decide)
  · refine ⟨by decide, by decide, by decide, fun _ _ => Nat.zero_le _, fun _ _ => Nat.zero_le _, fun l hl => absurd hl (Nat.not_lt_zero l), fun _ _ => Nat.zero_lt_succ _, fun _ _ => Nat.zero_lt_succ _, fun _ _ => Nat.zero_lt_succ _, fun k hk => absurd hk (Nat.not_lt_zero k), fun y p e _ _ _ => ?_, fun y _ => ?_⟩
    · show false = (0 : Nat).testBit e
      rw [Nat.zero_testBit]
    · show 0 + dpS (fun _ => 0) y 6 = 0
      rw [show dpS (fun _ => 0) y 6 = 0 from sm_z (fun i hi => popN_0)]
  · exact ⟨zI_at zI1 (a := 11) (m := 1) (by decide) (by decide), fun j hj => zI_at zI1 (a := 12) (m := 30) (by decide) hj, fun j hj => zI_at zI1 (a := 13) (m := 30) (by decide) hj, zL1.1, fun z => absurd z (Nat.lt_irrefl 0), zI_at zI1 (a := 14) (m := 4) (by decide) (by decide), zI_at zI1 (a := 14) (m := 4) (by decide) (by decide), fun j hj => zI_at zI2 (a := 15) (m := 200) (by decide) hj, fun j hj => zI_at zI2 (a := 16) (m := 200) (by decide) hj, fun j hj => zI_at zI2 (a := 17) (m := 40) (by decide) hj, fun j hj => zI_at zI2 (a := 18) (m := 240) (by decide) hj, zL1.2.2.1⟩
  · exact ⟨zI_at zI1 (a := 74) (m := 53) (by decide) (by decide), fun j hj => zI_at zI1 (a := 79) (m := 30) (by decide) hj, fun j hj => zI_at zI1 (a := 81) (m := 30) (by decide) hj, fun j hj => zI_at zI2 (a := 86) (m := 200) (by decide) hj, fun j hj => zI_at zI2 (a := 87) (m := 200) (by decide) hj, fun j hj => zI_at zI2 (a := 88) (m := 40) (by decide) hj, zI_at zI1 (a := 74) (m := 53) (by decide) (by decide), zI_at zI1 (a := 74) (m := 53) (by decide) (by decide), zL1.2.1, fun k hk => absurd hk (Nat.not_lt_zero k), zL1.2.2.2⟩
set_option maxRecDepth 100000 in
theorem zB92 : hZ hB1 = 96 ∧ hK hA0 0 = 11 ∧ hK hB0 74 = 12 := by decide +kernel
theorem ev_A {D : Nat} {Q : Option Value → Hp → Prop} : Ev (D + 6) 0 [.ref 0] hA0 Q = Q none hA1 := ev_eq_of (fun Q hQ => ⟨400, none, hA1, xCall_le (Nat.le_refl 400) 6 (D + 6) (by omega) _ _ _ _ (isV_of run_A), hQ⟩)
theorem ev_B {D : Nat} {Q : Option Value → Hp → Prop} : Ev (D + 6) 80 [.ref 74] hB0 Q = Q none hB1 := ev_eq_of (fun Q hQ => ⟨400, none, hB1, xCall_le (Nat.le_refl 400) 6 (D + 6) (by omega) _ _ _ _ (isV_of run_B), hQ⟩)
theorem law_pure {L : Nat} {xs : Nat → Int32} (L4 : L ≤ 4096) : ∃ (N : Nat) (H1 : Hp), xRun (xCall N 840) (some (L, xs)) (blk 275) N (blk 275 0) ls0 [] hp0 = some (some (.int 1), H1) ∧ hC H1 ≤ 601024 ∧ hS H1 ≤ 7293034 := by
  have main : Ex (some (L, xs)) 840 275 (blk 275 0) ls0 [] hp0 (fun v h1 => v = some (.int 1) ∧ hC h1 ≤ 97 + L ∧ hS h1 ≤ 30000 + 6 * L) := by
    have z0 : hZ hp0 = 0 := rfl
    have z1 := zA
    have z2 := zB92.1
    have a0 : hNew hp0 (10 + 1) 0 16 = hA0 := rfl
    have b0 : hNew hA1 (11 + 1) 0 53 = hB0 := rfl
    have j0 : hNew hB1 23 1 1 = hJ := rfl
    have k0 := zB92.2.1
    have k7 := zB92.2.2
    have s1 : SCR = 1000000 := rfl
    have go := law_loop (D := 10) (xs := xs) L4 L 0 hJ none none (by omega) (Nat.zero_le _) RelJ (by rw [zJ.2.2.1]; omega) (by have := zJ.2.2.2; omega)
    unfold ls0
    rw [b275_0, ex_newo (by rw [z0, s1]; omega), a0, z0]
    simp (disch := first | (simp only [Fr_sI, Fr_sL, Fr_sA, Fr_sLA]; assumption) | assumption | decide | omega | (simp only [List.length_cons, List.length_nil, List.drop_succ_cons, List.drop_zero, catS, Value.category, Nat.reduceAdd, Nat.reduceLT, Nat.reduceLeDiff, Nat.le_refl, and_self, and_true, true_and]; done) | (simp only [hK_sI, hN_sI, hK_sL, hN_sL, hK_sR, hN_sR, hK_sA, hN_sA, hK_sLA, hN_sLA]; first | assumption | omega)) only [ex_iadd, ex_isub, ex_imul, ex_iand, ex_ior, ex_ixor, ex_ishl, ex_ishr, ex_iushr, ex_ladd, ex_lsub, ex_lmul, ex_idiv, ex_irem, ex_ldiv, ex_lrem, ex_lshl, ex_lushr, ex_lcmp, ex_i2l, ex_l2i, ex_i2b, ex_iconst, ex_lconst, ex_null, ex_iload, ex_lload, ex_aload, ex_istore, ex_astore, ex_astoreN, ex_lstore, ex_iinc, ex_dup_int, ex_pop_int, ex_dup_ref, ex_pop_ref, ex_dup2l, ex_dup2ri, ex_pop2, ex_goto, ex_jsr, ex_ifnull, ex_ifnullN, ex_ifnn, ex_ifnnN, ex_calls, ex_callv, ex_ireturn, ex_zB, ex_z0, ex_z1, ex_lreturn, ex_vreturn, ex_obj, ex_icmp_eq, ex_icmp_ne, ex_icmp_lt, ex_icmp_ge, ex_icmp_gt, ex_icmp_le, ex_ifc_eq, ex_ifc_ne, ex_ifc_lt, ex_ifc_ge, ex_ifc_gt, ex_ifc_le, lget_cons0, lget_cons, lset1, lclr, isL, List.length_cons, List.length_nil, List.take, List.drop, List.take_zero, List.drop_zero, List.reverse_cons, List.reverse_nil, List.nil_append, List.cons_append, catS, Value.category, tl_some, tl_none, rf_some, rf_none, Int.toNat_natCast, Int.reduceToNat, Nat.reduceAdd, Nat.reduceLT, Nat.reduceLeDiff, Nat.reduceEqDiff, and_true, true_and, and_self, eq_self, reduceIte, false_and, and_false, Bool.false_eq_true, Bool.true_eq_false, or_true, true_or, or_false, false_or, not_true_eq_false, not_false_eq_true, ite_true, ite_false, if_true, if_false, linit, largs, List.replicate, Nat.reduceSub, Nat.sub_self, kim1000000000, kim2, kim1, ki0, ki1, ki2, ki3, ki4, ki5, ki6, ki7, ki8, ki9, ki10, ki12, ki15, ki16, ki20, ki24, ki30, ki32, ki33, ki38, ki40, ki41, ki42, ki43, ki44, ki45, ki46, ki47, ki48, ki50, ki52, ki57, ki58, ki59, ki60, ki61, ki62, ki63, ki91, ki93, ki97, ki99, ki100, ki102, ki108, ki109, ki110, ki111, ki116, ki119, ki120, ki121, ki124, ki128, ki200, ki240, ki255, ki480, ki680, ki999, ki1000, ki7776, ki252645135, ki858993459, ki1431655765, klm1000000000, klm1000000, klm1, kl0, kl1, kl2, kl3, kl4, kl5, kl12, kl60, kl99, kl999, kl1000, kl1000000, kl1000000000, kl4294967295, kl1442695040888963407, kl6364136223846793005, hK_sI, hN_sI, hI_sI, hL_sI, hR_sI, hZ_sI, hC_sI, hS_sI, hK_sL, hN_sL, hI_sL, hL_sL, hR_sL, hZ_sL, hC_sL, hS_sL, hK_sR, hN_sR, hI_sR, hL_sR, hR_sR, hZ_sR, hC_sR, hS_sR, hK_sA, hN_sA, hI_sA, hL_sA, hR_sA, hK_sLA, hN_sLA, hI_sLA, hL_sLA, hR_sLA, up2_at, vu_at, decide_true, decide_false, Bool.false_and, Bool.true_and, Bool.and_true, Bool.and_false, nI_ltN, nI_leN, nI_eqN, nI_eq0, nI_lt0N, nI_le0N, nI_gt0N, nI_le00N, nI_add, nI_mul, bB_0, bB_n, d_le, d_nle, d_lt, d_nlt, d_eq, d_ne, u_k0, u_k1, u_k4, u_k5, u_k7, u_k8, u_k11, u_k14, u_k21, u_k24, u_k33, u_k36, u_k37, u_k41, u_k45, u_k55, u_k66, u_k68, u_k70, u_k72, u_k74, k0, ev_A (D := 834)]
    rw [ex_newo (by rw [z1, s1]; omega), b0, z1]
    simp (disch := first | (simp only [Fr_sI, Fr_sL, Fr_sA, Fr_sLA]; assumption) | assumption | decide | omega | (simp only [List.length_cons, List.length_nil, List.drop_succ_cons, List.drop_zero, catS, Value.category, Nat.reduceAdd, Nat.reduceLT, Nat.reduceLeDiff, Nat.le_refl, and_self, and_true, true_and]; done) | (simp only [hK_sI, hN_sI, hK_sL, hN_sL, hK_sR, hN_sR, hK_sA, hN_sA, hK_sLA, hN_sLA]; first | assumption | omega)) only [ex_iadd, ex_isub, ex_imul, ex_iand, ex_ior, ex_ixor, ex_ishl, ex_ishr, ex_iushr, ex_ladd, ex_lsub, ex_lmul, ex_idiv, ex_irem, ex_ldiv, ex_lrem, ex_lshl, ex_lushr, ex_lcmp, ex_i2l, ex_l2i, ex_i2b, ex_iconst, ex_lconst, ex_null, ex_iload, ex_lload, ex_aload, ex_istore, ex_astore, ex_astoreN, ex_lstore, ex_iinc, ex_dup_int, ex_pop_int, ex_dup_ref, ex_pop_ref, ex_dup2l, ex_dup2ri, ex_pop2, ex_goto, ex_jsr, ex_ifnull, ex_ifnullN, ex_ifnn, ex_ifnnN, ex_calls, ex_callv, ex_ireturn, ex_zB, ex_z0, ex_z1, ex_lreturn, ex_vreturn, ex_obj, ex_icmp_eq, ex_icmp_ne, ex_icmp_lt, ex_icmp_ge, ex_icmp_gt, ex_icmp_le, ex_ifc_eq, ex_ifc_ne, ex_ifc_lt, ex_ifc_ge, ex_ifc_gt, ex_ifc_le, lget_cons0, lget_cons, lset1, lclr, isL, List.length_cons, List.length_nil, List.take, List.drop, List.take_zero, List.drop_zero, List.reverse_cons, List.reverse_nil, List.nil_append, List.cons_append, catS, Value.category, tl_some, tl_none, rf_some, rf_none, Int.toNat_natCast, Int.reduceToNat, Nat.reduceAdd, Nat.reduceLT, Nat.reduceLeDiff, Nat.reduceEqDiff, and_true, true_and, and_self, eq_self, reduceIte, false_and, and_false, Bool.false_eq_true, Bool.true_eq_false, or_true, true_or, or_false, false_or, not_true_eq_false, not_false_eq_true, ite_true, ite_false, if_true, if_false, linit, largs, List.replicate, Nat.reduceSub, Nat.sub_self, kim1000000000, kim2, kim1, ki0, ki1, ki2, ki3, ki4, ki5, ki6, ki7, ki8, ki9, ki10, ki12, ki15, ki16, ki20, ki24, ki30, ki32, ki33, ki38, ki40, ki41, ki42, ki43, ki44, ki45, ki46, ki47, ki48, ki50, ki52, ki57, ki58, ki59, ki60, ki61, ki62, ki63, ki91, ki93, ki97, ki99, ki100, ki102, ki108, ki109, ki110, ki111, ki116, ki119, ki120, ki121, ki124, ki128, ki200, ki240, ki255, ki480, ki680, ki999, ki1000, ki7776, ki252645135, ki858993459, ki1431655765, klm1000000000, klm1000000, klm1, kl0, kl1, kl2, kl3, kl4, kl5, kl12, kl60, kl99, kl999, kl1000, kl1000000, kl1000000000, kl4294967295, kl1442695040888963407, kl6364136223846793005, hK_sI, hN_sI, hI_sI, hL_sI, hR_sI, hZ_sI, hC_sI, hS_sI, hK_sL, hN_sL, hI_sL, hL_sL, hR_sL, hZ_sL, hC_sL, hS_sL, hK_sR, hN_sR, hI_sR, hL_sR, hR_sR, hZ_sR, hC_sR, hS_sR, hK_sA, hN_sA, hI_sA, hL_sA, hR_sA, hK_sLA, hN_sLA, hI_sLA, hL_sLA, hR_sLA, up2_at, vu_at, decide_true, decide_false, Bool.false_and, Bool.true_and, Bool.and_true, Bool.and_false, nI_ltN, nI_leN, nI_eqN, nI_eq0, nI_lt0N, nI_le0N, nI_gt0N, nI_le00N, nI_add, nI_mul, bB_0, bB_n, d_le, d_nle, d_lt, d_nlt, d_eq, d_ne, u_k0, u_k1, u_k4, u_k5, u_k7, u_k8, u_k11, u_k14, u_k21, u_k24, u_k33, u_k36, u_k37, u_k41, u_k45, u_k55, u_k66, u_k68, u_k70, u_k72, u_k74, k7, ev_B (D := 834)]
    rw [ex_newj (by rw [z2, s1]; omega), j0, z2]
    simp (disch := first | (simp only [Fr_sI, Fr_sL, Fr_sA, Fr_sLA]; assumption) | assumption | decide | omega | (simp only [List.length_cons, List.length_nil, List.drop_succ_cons, List.drop_zero, catS, Value.category, Nat.reduceAdd, Nat.reduceLT, Nat.reduceLeDiff, Nat.le_refl, and_self, and_true, true_and]; done) | (simp only [hK_sI, hN_sI, hK_sL, hN_sL, hK_sR, hN_sR, hK_sA, hN_sA, hK_sLA, hN_sLA]; first | assumption | omega)) only [ex_iadd, ex_isub, ex_imul, ex_iand, ex_ior, ex_ixor, ex_ishl, ex_ishr, ex_iushr, ex_ladd, ex_lsub, ex_lmul, ex_idiv, ex_irem, ex_ldiv, ex_lrem, ex_lshl, ex_lushr, ex_lcmp, ex_i2l, ex_l2i, ex_i2b, ex_iconst, ex_lconst, ex_null, ex_iload, ex_lload, ex_aload, ex_istore, ex_astore, ex_astoreN, ex_lstore, ex_iinc, ex_dup_int, ex_pop_int, ex_dup_ref, ex_pop_ref, ex_dup2l, ex_dup2ri, ex_pop2, ex_goto, ex_jsr, ex_ifnull, ex_ifnullN, ex_ifnn, ex_ifnnN, ex_calls, ex_callv, ex_ireturn, ex_zB, ex_z0, ex_z1, ex_lreturn, ex_vreturn, ex_obj, ex_icmp_eq, ex_icmp_ne, ex_icmp_lt, ex_icmp_ge, ex_icmp_gt, ex_icmp_le, ex_ifc_eq, ex_ifc_ne, ex_ifc_lt, ex_ifc_ge, ex_ifc_gt, ex_ifc_le, lget_cons0, lget_cons, lset1, lclr, isL, List.length_cons, List.length_nil, List.take, List.drop, List.take_zero, List.drop_zero, List.reverse_cons, List.reverse_nil, List.nil_append, List.cons_append, catS, Value.category, tl_some, tl_none, rf_some, rf_none, Int.toNat_natCast, Int.reduceToNat, Nat.reduceAdd, Nat.reduceLT, Nat.reduceLeDiff, Nat.reduceEqDiff, and_true, true_and, and_self, eq_self, reduceIte, false_and, and_false, Bool.false_eq_true, Bool.true_eq_false, or_true, true_or, or_false, false_or, not_true_eq_false, not_false_eq_true, ite_true, ite_false, if_true, if_false, linit, largs, List.replicate, Nat.reduceSub, Nat.sub_self, kim1000000000, kim2, kim1, ki0, ki1, ki2, ki3, ki4, ki5, ki6, ki7, ki8, ki9, ki10, ki12, ki15, ki16, ki20, ki24, ki30, ki32, ki33, ki38, ki40, ki41, ki42, ki43, ki44, ki45, ki46, ki47, ki48, ki50, ki52, ki57, ki58, ki59, ki60, ki61, ki62, ki63, ki91, ki93, ki97, ki99, ki100, ki102, ki108, ki109, ki110, ki111, ki116, ki119, ki120, ki121, ki124, ki128, ki200, ki240, ki255, ki480, ki680, ki999, ki1000, ki7776, ki252645135, ki858993459, ki1431655765, klm1000000000, klm1000000, klm1, kl0, kl1, kl2, kl3, kl4, kl5, kl12, kl60, kl99, kl999, kl1000, kl1000000, kl1000000000, kl4294967295, kl1442695040888963407, kl6364136223846793005, hK_sI, hN_sI, hI_sI, hL_sI, hR_sI, hZ_sI, hC_sI, hS_sI, hK_sL, hN_sL, hI_sL, hL_sL, hR_sL, hZ_sL, hC_sL, hS_sL, hK_sR, hN_sR, hI_sR, hL_sR, hR_sR, hZ_sR, hC_sR, hS_sR, hK_sA, hN_sA, hI_sA, hL_sA, hR_sA, hK_sLA, hN_sLA, hI_sLA, hL_sLA, hR_sLA, up2_at, vu_at, decide_true, decide_false, Bool.false_and, Bool.true_and, Bool.and_true, Bool.and_false, nI_ltN, nI_leN, nI_eqN, nI_eq0, nI_lt0N, nI_le0N, nI_gt0N, nI_le00N, nI_add, nI_mul, bB_0, bB_n, d_le, d_nle, d_lt, d_nlt, d_eq, d_ne, u_k0, u_k1, u_k4, u_k5, u_k7, u_k8, u_k11, u_k14, u_k21, u_k24, u_k33, u_k36, u_k37, u_k41, u_k45, u_k55, u_k66, u_k68, u_k70, u_k72, u_k74]
    exact go
  obtain ⟨N, m, v, h1, e, rfl, c, s⟩ := main
  refine ⟨max N m, h1, xRun_le (xCall_le (Nat.le_max_left N m) 840 840 (Nat.le_refl _)) m (max N m) _ _ _ _ (Nat.le_max_right N m) _ e, by omega, by omega⟩
