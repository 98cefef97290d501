/-! undo: model. -/
def flN (dy : Nat → Nat) (y : Nat) : Nat → Nat
  | 0 => 0
  | k + 1 => if dy k = y then flN dy y k else flN dy y k + 1
def flA (dy : Nat → Nat) (y : Nat) (g : Nat → Nat) : Nat → Nat → Nat
  | 0 => g
  | k + 1 => fun i => if dy k = y then flA dy y g k i else if i = flN dy y k then g k else flA dy y g k i
theorem flA_s {dy : Nat → Nat} {y : Nat} {g : Nat → Nat} {k i : Nat} : flA dy y g (k + 1) i = if dy k = y then flA dy y g k i else if i = flN dy y k then g k else flA dy y g k i := rfl
theorem flN_le (dy : Nat → Nat) (y : Nat) : ∀ k, flN dy y k ≤ k
  | 0 => Nat.le_refl _
  | k + 1 => by
    have := flN_le dy y k
    rw [flN]
    split <;> omega
theorem flA_hi {dy : Nat → Nat} {y : Nat} {g : Nat → Nat} : ∀ k i, k ≤ i → flA dy y g k i = g i
  | 0, _, _ => rfl
  | k + 1, i, q => by
    have := flN_le dy y k
    rw [flA_s]
    split
    · exact flA_hi k i (by omega)
    · rw [if_neg (by omega)]
      exact flA_hi k i (by omega)
theorem flA_lt {dy : Nat → Nat} {y M : Nat} {g : Nat → Nat} {ac : Nat} (hg : ∀ k, k < ac → g k < M) : ∀ k, k ≤ ac → ∀ i, i < ac → flA dy y g k i < M
  | 0, _, i, hi => hg i hi
  | k + 1, q, i, hi => by
    rw [flA_s]
    split
    · exact flA_lt hg k (by omega) i hi
    · split
      · exact hg k (by omega)
      · exact flA_lt hg k (by omega) i hi
theorem didL_congr {wh de dy wh' de' dy' : Nat → Nat} {p e z : Nat} : ∀ m, (∀ i, i < m → wh i = wh' i ∧ de i = de' i ∧ dy i = dy' i) → didL wh de dy p e z m = didL wh' de' dy' p e z m
  | 0, _ => rfl
  | m + 1, h => by
    obtain ⟨a, b, c⟩ := h m (by omega)
    rw [didL, didL, didL_congr m (fun i hi => h i (by omega)), a, b, c]
theorem didL_fl {wh de dy : Nat → Nat} {y p e z : Nat} : ∀ k, didL (flA dy y wh k) (flA dy y de k) (flA dy y dy k) p e z (flN dy y k) = if z = y then false else didL wh de dy p e z k
  | 0 => by
    show false = _
    split <;> rfl
  | k + 1 => by
    have ih := @didL_fl wh de dy y p e z k
    by_cases q : dy k = y
    · have c1 : flA dy y wh (k + 1) = flA dy y wh k := by funext i; rw [flA_s, if_pos q]
      have c2 : flA dy y de (k + 1) = flA dy y de k := by funext i; rw [flA_s, if_pos q]
      have c3 : flA dy y dy (k + 1) = flA dy y dy k := by funext i; rw [flA_s, if_pos q]
      rw [c1, c2, c3, flN, if_pos q, ih]
      by_cases zy : z = y
      · rw [if_pos zy, if_pos zy]
      · rw [if_neg zy, if_neg zy, didL, decide_eq_false (fun w => zy (by rw [← w.2.2]; exact q)), Bool.or_false]
    · rw [flN, if_neg q, didL]
      have cc : ∀ g i, i < flN dy y k → flA dy y g (k + 1) i = flA dy y g k i := fun g i hi => by rw [flA_s, if_neg q, if_neg (by omega)]
      have cd : ∀ g, flA dy y g (k + 1) (flN dy y k) = g k := fun g => by rw [flA_s, if_neg q, if_pos rfl]
      rw [didL_congr (flN dy y k) (fun i hi => ⟨cc wh i hi, cc de i hi, cc dy i hi⟩), ih, cd, cd, cd]
      by_cases zy : z = y
      · rw [if_pos zy, if_pos zy, decide_eq_false (fun w => q (by rw [w.2.2]; exact zy)), Bool.or_false]
      · rw [if_neg zy, if_neg zy, didL]
def sMu (a j : Nat) : Bool := a == 91 || a == 92 || a == 93 || (a == 74 && (j == 0 || j == 30 || j == 31 || j == 44))
section
variable {D n d ac : Nat} {hd fc th dn wh de dy : Nat → Nat} {h : Hp} {Q : Option Value → Hp → Prop}
set_option maxHeartbeats 2000000 in
theorem m_undo (f : Fr h) (ca : MA h ac wh de dy) (d40 : d ≤ 40) (hdd : hI h 74 30 = nI d) (h0 : d = 0 → Q (some (.int (-nI 1))) (sI h 74 0 (nI 0))) (hQ : 0 < d → ∀ h1, Sm sMu h h1 → hI h1 74 30 = nI (d - 1) → hL h1 74 31 = hL h 89 (d - 1) → MA h1 (flN dy (d - 1) ac) (flA dy (d - 1) wh ac) (flA dy (d - 1) de ac) (flA dy (d - 1) dy ac) → Q (some (.int (nI (d - 1)))) h1) : Ev (D + 10) 134 [.ref 74] h Q := by
  rw [Ev_body 3 rfl rfl]
  cases d with
  | zero =>
    simp (disch := first | (simp only [Fr_sI, Fr_sL, Fr_sA, Fr_sLA]; assumption) | assumption | decide | omega | (simp only [List.length_cons, List.length_nil, List.drop_succ_cons, List.drop_zero, catS, Value.category, Nat.reduceAdd, Nat.reduceLT, Nat.reduceLeDiff, Nat.le_refl, and_self, and_true, true_and]; done) | (simp only [hK_sI, hN_sI, hK_sL, hN_sL, hK_sR, hN_sR, hK_sA, hN_sA, hK_sLA, hN_sLA]; first | assumption | omega)) only [ex_iadd, ex_isub, ex_imul, ex_iand, ex_ior, ex_ixor, ex_ishl, ex_ishr, ex_iushr, ex_ladd, ex_lsub, ex_lmul, ex_idiv, ex_irem, ex_ldiv, ex_lrem, ex_lshl, ex_lushr, ex_lcmp, ex_i2l, ex_l2i, ex_i2b, ex_iconst, ex_lconst, ex_null, ex_iload, ex_lload, ex_aload, ex_istore, ex_astore, ex_astoreN, ex_lstore, ex_iinc, ex_dup_int, ex_pop_int, ex_dup_ref, ex_pop_ref, ex_dup2l, ex_dup2ri, ex_pop2, ex_goto, ex_jsr, ex_ifnull, ex_ifnullN, ex_ifnn, ex_ifnnN, ex_calls, ex_callv, ex_ireturn, ex_zB, ex_z0, ex_z1, ex_lreturn, ex_vreturn, ex_obj, ex_icmp_eq, ex_icmp_ne, ex_icmp_lt, ex_icmp_ge, ex_icmp_gt, ex_icmp_le, ex_ifc_eq, ex_ifc_ne, ex_ifc_lt, ex_ifc_ge, ex_ifc_gt, ex_ifc_le, lget_cons0, lget_cons, lset1, lclr, isL, List.length_cons, List.length_nil, List.take, List.drop, List.take_zero, List.drop_zero, List.reverse_cons, List.reverse_nil, List.nil_append, List.cons_append, catS, Value.category, tl_some, tl_none, rf_some, rf_none, Int.toNat_natCast, Int.reduceToNat, Nat.reduceAdd, Nat.reduceLT, Nat.reduceLeDiff, Nat.reduceEqDiff, and_true, true_and, and_self, eq_self, reduceIte, false_and, and_false, Bool.false_eq_true, Bool.true_eq_false, or_true, true_or, or_false, false_or, not_true_eq_false, not_false_eq_true, ite_true, ite_false, if_true, if_false, linit, largs, List.replicate, Nat.reduceSub, Nat.sub_self, kim1000000000, kim2, kim1, ki0, ki1, ki2, ki3, ki4, ki5, ki6, ki7, ki8, ki9, ki10, ki12, ki15, ki16, ki20, ki24, ki30, ki32, ki33, ki38, ki40, ki41, ki42, ki43, ki44, ki45, ki46, ki47, ki48, ki50, ki52, ki57, ki58, ki59, ki60, ki61, ki62, ki63, ki91, ki93, ki97, ki99, ki100, ki102, ki108, ki109, ki110, ki111, ki116, ki119, ki120, ki121, ki124, ki128, ki200, ki240, ki255, ki480, ki680, ki999, ki1000, ki7776, ki252645135, ki858993459, ki1431655765, klm1000000000, klm1000000, klm1, kl0, kl1, kl2, kl3, kl4, kl5, kl12, kl60, kl99, kl999, kl1000, kl1000000, kl1000000000, kl4294967295, kl1442695040888963407, kl6364136223846793005, hK_sI, hN_sI, hI_sI, hL_sI, hR_sI, hZ_sI, hC_sI, hS_sI, hK_sL, hN_sL, hI_sL, hL_sL, hR_sL, hZ_sL, hC_sL, hS_sL, hK_sR, hN_sR, hI_sR, hL_sR, hR_sR, hZ_sR, hC_sR, hS_sR, hK_sA, hN_sA, hI_sA, hL_sA, hR_sA, hK_sLA, hN_sLA, hI_sLA, hL_sLA, hR_sLA, up2_at, vu_at, decide_true, decide_false, Bool.false_and, Bool.true_and, Bool.and_true, Bool.and_false, nI_ltN, nI_leN, nI_eqN, nI_eq0, nI_lt0N, nI_le0N, nI_gt0N, nI_le00N, nI_add, nI_mul, bB_0, bB_n, d_le, d_nle, d_lt, d_nlt, d_eq, d_ne, u_k0, u_k1, u_k4, u_k5, u_k7, u_k8, u_k11, u_k14, u_k21, u_k24, u_k33, u_k36, u_k37, u_k41, u_k45, u_k55, u_k66, u_k68, u_k70, u_k72, u_k74, b134_0, hdd, u_gI74, u_gL74, u_pL74, u_pI74, u_pZa74, u_pZb74, u_pZc74, u_pR74, u_gD74, u_rf74_1, u_rf74_2, u_rf74_3, u_rf74_4, u_rf74_15, u_rf74_16, u_rf74_18, u_rf74_19, u_rf74_21, u_rf74_22, u_rf74_23, u_rf74_24, u_rf74_25, u_rf74_26, u_rf74_27, u_rf74_28, u_rf74_29, u_rf74_39, u_rf74_41, u_rf74_42, u_rf74_43, u_rf74_45, u_rf74_46, u_k74]
    exact h0 rfl
  | succ y =>
    have hQ := hQ (by omega)
    rw [Nat.add_sub_cancel] at hQ
    obtain ⟨a60, h44, hk⟩ := ca
    have key : ∀ r k, k + r = ac → ∀ h1, Sm sMu h h1 → hI h1 74 30 = nI y → hL h1 74 31 = hL h 89 y → hI h1 74 44 = nI ac → (∀ i, i < ac → hI h1 91 i = nI (flA dy y wh k i) ∧ hI h1 92 i = nI (flA dy y de k i) ∧ hI h1 93 i = nI (flA dy y dy k i)) → Ex none (D + 9) 134 (blk 134 2) [some (.ref 74), some (.int (nI (flN dy y k))), some (.int (nI k))] [] h1 Q := by
      intro r
      induction r with
      | zero =>
        intro k hj h1 s1 a1 a2 a3 a4
        have hj : k = ac := by omega
        subst hj
        have f1 : Fr h1 := s1.fr f (by decide)
        have l1 := flN_le dy y k
        rw [b134_2]
        simp (disch := first | (simp only [Fr_sI, Fr_sL, Fr_sA, Fr_sLA]; assumption) | assumption | decide | omega | (simp only [List.length_cons, List.length_nil, List.drop_succ_cons, List.drop_zero, catS, Value.category, Nat.reduceAdd, Nat.reduceLT, Nat.reduceLeDiff, Nat.le_refl, and_self, and_true, true_and]; done) | (simp only [hK_sI, hN_sI, hK_sL, hN_sL, hK_sR, hN_sR, hK_sA, hN_sA, hK_sLA, hN_sLA]; first | assumption | omega)) only [ex_iadd, ex_isub, ex_imul, ex_iand, ex_ior, ex_ixor, ex_ishl, ex_ishr, ex_iushr, ex_ladd, ex_lsub, ex_lmul, ex_idiv, ex_irem, ex_ldiv, ex_lrem, ex_lshl, ex_lushr, ex_lcmp, ex_i2l, ex_l2i, ex_i2b, ex_iconst, ex_lconst, ex_null, ex_iload, ex_lload, ex_aload, ex_istore, ex_astore, ex_astoreN, ex_lstore, ex_iinc, ex_dup_int, ex_pop_int, ex_dup_ref, ex_pop_ref, ex_dup2l, ex_dup2ri, ex_pop2, ex_goto, ex_jsr, ex_ifnull, ex_ifnullN, ex_ifnn, ex_ifnnN, ex_calls, ex_callv, ex_ireturn, ex_zB, ex_z0, ex_z1, ex_lreturn, ex_vreturn, ex_obj, ex_icmp_eq, ex_icmp_ne, ex_icmp_lt, ex_icmp_ge, ex_icmp_gt, ex_icmp_le, ex_ifc_eq, ex_ifc_ne, ex_ifc_lt, ex_ifc_ge, ex_ifc_gt, ex_ifc_le, lget_cons0, lget_cons, lset1, lclr, isL, List.length_cons, List.length_nil, List.take, List.drop, List.take_zero, List.drop_zero, List.reverse_cons, List.reverse_nil, List.nil_append, List.cons_append, catS, Value.category, tl_some, tl_none, rf_some, rf_none, Int.toNat_natCast, Int.reduceToNat, Nat.reduceAdd, Nat.reduceLT, Nat.reduceLeDiff, Nat.reduceEqDiff, and_true, true_and, and_self, eq_self, reduceIte, false_and, and_false, Bool.false_eq_true, Bool.true_eq_false, or_true, true_or, or_false, false_or, not_true_eq_false, not_false_eq_true, ite_true, ite_false, if_true, if_false, linit, largs, List.replicate, Nat.reduceSub, Nat.sub_self, kim1000000000, kim2, kim1, ki0, ki1, ki2, ki3, ki4, ki5, ki6, ki7, ki8, ki9, ki10, ki12, ki15, ki16, ki20, ki24, ki30, ki32, ki33, ki38, ki40, ki41, ki42, ki43, ki44, ki45, ki46, ki47, ki48, ki50, ki52, ki57, ki58, ki59, ki60, ki61, ki62, ki63, ki91, ki93, ki97, ki99, ki100, ki102, ki108, ki109, ki110, ki111, ki116, ki119, ki120, ki121, ki124, ki128, ki200, ki240, ki255, ki480, ki680, ki999, ki1000, ki7776, ki252645135, ki858993459, ki1431655765, klm1000000000, klm1000000, klm1, kl0, kl1, kl2, kl3, kl4, kl5, kl12, kl60, kl99, kl999, kl1000, kl1000000, kl1000000000, kl4294967295, kl1442695040888963407, kl6364136223846793005, hK_sI, hN_sI, hI_sI, hL_sI, hR_sI, hZ_sI, hC_sI, hS_sI, hK_sL, hN_sL, hI_sL, hL_sL, hR_sL, hZ_sL, hC_sL, hS_sL, hK_sR, hN_sR, hI_sR, hL_sR, hR_sR, hZ_sR, hC_sR, hS_sR, hK_sA, hN_sA, hI_sA, hL_sA, hR_sA, hK_sLA, hN_sLA, hI_sLA, hL_sLA, hR_sLA, up2_at, vu_at, decide_true, decide_false, Bool.false_and, Bool.true_and, Bool.and_true, Bool.and_false, nI_ltN, nI_leN, nI_eqN, nI_eq0, nI_lt0N, nI_le0N, nI_gt0N, nI_le00N, nI_add, nI_mul, bB_0, bB_n, d_le, d_nle, d_lt, d_nlt, d_eq, d_ne, u_k0, u_k1, u_k4, u_k5, u_k7, u_k8, u_k11, u_k14, u_k21, u_k24, u_k33, u_k36, u_k37, u_k41, u_k45, u_k55, u_k66, u_k68, u_k70, u_k72, u_k74, b134_5, a1, a3, u_gI74, u_gL74, u_pL74, u_pI74, u_pZa74, u_pZb74, u_pZc74, u_pR74, u_gD74, u_rf74_1, u_rf74_2, u_rf74_3, u_rf74_4, u_rf74_15, u_rf74_16, u_rf74_18, u_rf74_19, u_rf74_21, u_rf74_22, u_rf74_23, u_rf74_24, u_rf74_25, u_rf74_26, u_rf74_27, u_rf74_28, u_rf74_29, u_rf74_39, u_rf74_41, u_rf74_42, u_rf74_43, u_rf74_45, u_rf74_46, u_k74]
        refine hQ _ (s1.wI (a := 74) _ rfl) a1 a2 ⟨by omega, rfl, fun i hi => ⟨a4 i (by omega), flA_lt (fun i hi => (hk i hi).2.1) k (Nat.le_refl _) i (by omega), flA_lt (fun i hi => (hk i hi).2.2.1) k (Nat.le_refl _) i (by omega), flA_lt (fun i hi => (hk i hi).2.2.2) k (Nat.le_refl _) i (by omega)⟩⟩
      | succ r ih =>
        intro k hj h1 s1 a1 a2 a3 a4
        have f1 : Fr h1 := s1.fr f (by decide)
        have l1 := flN_le dy y k
        obtain ⟨e1, e2, e3⟩ := a4 k (by omega)
        rw [flA_hi k k (Nat.le_refl _)] at e1 e2 e3
        obtain ⟨_, b1, b2, b3⟩ := hk k (by omega)
        rw [b134_2]
        by_cases q : dy k = y
        · have next := ih (k + 1) (by omega) h1 s1 a1 a2 a3 (fun i hi => by
            have z := a4 i hi
            simp only [flA_s, if_pos q]
            exact z)
          rw [flN, if_pos q] at next
          simp (disch := first | (simp only [Fr_sI, Fr_sL, Fr_sA, Fr_sLA]; assumption) | assumption | decide | omega | (simp only [List.length_cons, List.length_nil, List.drop_succ_cons, List.drop_zero, catS, Value.category, Nat.reduceAdd, Nat.reduceLT, Nat.reduceLeDiff, Nat.le_refl, and_self, and_true, true_and]; done) | (simp only [hK_sI, hN_sI, hK_sL, hN_sL, hK_sR, hN_sR, hK_sA, hN_sA, hK_sLA, hN_sLA]; first | assumption | omega)) only [ex_iadd, ex_isub, ex_imul, ex_iand, ex_ior, ex_ixor, ex_ishl, ex_ishr, ex_iushr, ex_ladd, ex_lsub, ex_lmul, ex_idiv, ex_irem, ex_ldiv, ex_lrem, ex_lshl, ex_lushr, ex_lcmp, ex_i2l, ex_l2i, ex_i2b, ex_iconst, ex_lconst, ex_null, ex_iload, ex_lload, ex_aload, ex_istore, ex_astore, ex_astoreN, ex_lstore, ex_iinc, ex_dup_int, ex_pop_int, ex_dup_ref, ex_pop_ref, ex_dup2l, ex_dup2ri, ex_pop2, ex_goto, ex_jsr, ex_ifnull, ex_ifnullN, ex_ifnn, ex_ifnnN, ex_calls, ex_callv, ex_ireturn, ex_zB, ex_z0, ex_z1, ex_lreturn, ex_vreturn, ex_obj, ex_icmp_eq, ex_icmp_ne, ex_icmp_lt, ex_icmp_ge, ex_icmp_gt, ex_icmp_le, ex_ifc_eq, ex_ifc_ne, ex_ifc_lt, ex_ifc_ge, ex_ifc_gt, ex_ifc_le, lget_cons0, lget_cons, lset1, lclr, isL, List.length_cons, List.length_nil, List.take, List.drop, List.take_zero, List.drop_zero, List.reverse_cons, List.reverse_nil, List.nil_append, List.cons_append, catS, Value.category, tl_some, tl_none, rf_some, rf_none, Int.toNat_natCast, Int.reduceToNat, Nat.reduceAdd, Nat.reduceLT, Nat.reduceLeDiff, Nat.reduceEqDiff, and_true, true_and, and_self, eq_self, reduceIte, false_and, and_false, Bool.false_eq_true, Bool.true_eq_false, or_true, true_or, or_false, false_or, not_true_eq_false, not_false_eq_true, ite_true, ite_false, if_true, if_false, linit, largs, List.replicate, Nat.reduceSub, Nat.sub_self, kim1000000000, kim2, kim1, ki0, ki1, ki2, ki3, ki4, ki5, ki6, ki7, ki8, ki9, ki10, ki12, ki15, ki16, ki20, ki24, ki30, ki32, ki33, ki38, ki40, ki41, ki42, ki43, ki44, ki45, ki46, ki47, ki48, ki50, ki52, ki57, ki58, ki59, ki60, ki61, ki62, ki63, ki91, ki93, ki97, ki99, ki100, ki102, ki108, ki109, ki110, ki111, ki116, ki119, ki120, ki121, ki124, ki128, ki200, ki240, ki255, ki480, ki680, ki999, ki1000, ki7776, ki252645135, ki858993459, ki1431655765, klm1000000000, klm1000000, klm1, kl0, kl1, kl2, kl3, kl4, kl5, kl12, kl60, kl99, kl999, kl1000, kl1000000, kl1000000000, kl4294967295, kl1442695040888963407, kl6364136223846793005, hK_sI, hN_sI, hI_sI, hL_sI, hR_sI, hZ_sI, hC_sI, hS_sI, hK_sL, hN_sL, hI_sL, hL_sL, hR_sL, hZ_sL, hC_sL, hS_sL, hK_sR, hN_sR, hI_sR, hL_sR, hR_sR, hZ_sR, hC_sR, hS_sR, hK_sA, hN_sA, hI_sA, hL_sA, hR_sA, hK_sLA, hN_sLA, hI_sLA, hL_sLA, hR_sLA, up2_at, vu_at, decide_true, decide_false, Bool.false_and, Bool.true_and, Bool.and_true, Bool.and_false, nI_ltN, nI_leN, nI_eqN, nI_eq0, nI_lt0N, nI_le0N, nI_gt0N, nI_le00N, nI_add, nI_mul, bB_0, bB_n, d_le, d_nle, d_lt, d_nlt, d_eq, d_ne, u_k0, u_k1, u_k4, u_k5, u_k7, u_k8, u_k11, u_k14, u_k21, u_k24, u_k33, u_k36, u_k37, u_k41, u_k45, u_k55, u_k66, u_k68, u_k70, u_k72, u_k74, b134_4, a1, a3, e3, q, u_gI74, u_gL74, u_pL74, u_pI74, u_pZa74, u_pZb74, u_pZc74, u_pR74, u_gD74, u_rf74_1, u_rf74_2, u_rf74_3, u_rf74_4, u_rf74_15, u_rf74_16, u_rf74_18, u_rf74_19, u_rf74_21, u_rf74_22, u_rf74_23, u_rf74_24, u_rf74_25, u_rf74_26, u_rf74_27, u_rf74_28, u_rf74_29, u_rf74_39, u_rf74_41, u_rf74_42, u_rf74_43, u_rf74_45, u_rf74_46, u_k74, u_k93, u_n93, u_ld93, u_st93, u_al93]
          exact next
        · have e4 : ∀ v w u, ∀ i, hI (sI (sI (sI h1 91 (flN dy y k) v) 92 (flN dy y k) w) 93 (flN dy y k) u) 91 i = (if i = flN dy y k then v else hI h1 91 i) ∧ hI (sI (sI (sI h1 91 (flN dy y k) v) 92 (flN dy y k) w) 93 (flN dy y k) u) 92 i = (if i = flN dy y k then w else hI h1 92 i) ∧ hI (sI (sI (sI h1 91 (flN dy y k) v) 92 (flN dy y k) w) 93 (flN dy y k) u) 93 i = (if i = flN dy y k then u else hI h1 93 i) := by
            intro v w u i
            simp only [hK_sI, hN_sI, hI_sI, hL_sI, hR_sI, hZ_sI, hC_sI, hS_sI, hK_sL, hN_sL, hI_sL, hL_sL, hR_sL, hZ_sL, hC_sL, hS_sL, hK_sR, hN_sR, hI_sR, hL_sR, hR_sR, hZ_sR, hC_sR, hS_sR, hK_sA, hN_sA, hI_sA, hL_sA, hR_sA, hK_sLA, hN_sLA, hI_sLA, hL_sLA, hR_sLA, up2_at, vu_at]
            by_cases q : i = flN dy y k
            · simp [q]
            · simp [q]
          have next := ih (k + 1) (by omega) (sI (sI (sI h1 91 (flN dy y k) (nI (wh k))) 92 (flN dy y k) (nI (de k))) 93 (flN dy y k) (nI (dy k))) (((s1.wI (a := 91) _ rfl).wI (a := 92) _ rfl).wI (a := 93) _ rfl) a1 a2 a3 (fun i hi => by
            obtain ⟨z1, z2, z3⟩ := a4 i hi
            obtain ⟨y1, y2, y3⟩ := e4 (nI (wh k)) (nI (de k)) (nI (dy k)) i
            rw [y1, y2, y3]
            simp only [flA_s, if_neg q]
            by_cases q2 : i = flN dy y k
            · simp only [if_pos q2, and_self]
            · simp only [if_neg q2]
              exact ⟨z1, z2, z3⟩)
          rw [flN, if_neg q] at next
          simp (disch := first | (simp only [Fr_sI, Fr_sL, Fr_sA, Fr_sLA]; assumption) | assumption | decide | omega | (simp only [List.length_cons, List.length_nil, List.drop_succ_cons, List.drop_zero, catS, Value.category, Nat.reduceAdd, Nat.reduceLT, Nat.reduceLeDiff, Nat.le_refl, and_self, and_true, true_and]; done) | (simp only [hK_sI, hN_sI, hK_sL, hN_sL, hK_sR, hN_sR, hK_sA, hN_sA, hK_sLA, hN_sLA]; first | assumption | omega)) only [ex_iadd, ex_isub, ex_imul, ex_iand, ex_ior, ex_ixor, ex_ishl, ex_ishr, ex_iushr, ex_ladd, ex_lsub, ex_lmul, ex_idiv, ex_irem, ex_ldiv, ex_lrem, ex_lshl, ex_lushr, ex_lcmp, ex_i2l, ex_l2i, ex_i2b, ex_iconst, ex_lconst, ex_null, ex_iload, ex_lload, ex_aload, ex_istore, ex_astore, ex_astoreN, ex_lstore, ex_iinc, ex_dup_int, ex_pop_int, ex_dup_ref, ex_pop_ref, ex_dup2l, ex_dup2ri, ex_pop2, ex_goto, ex_jsr, ex_ifnull, ex_ifnullN, ex_ifnn, ex_ifnnN, ex_calls, ex_callv, ex_ireturn, ex_zB, ex_z0, ex_z1, ex_lreturn, ex_vreturn, ex_obj, ex_icmp_eq, ex_icmp_ne, ex_icmp_lt, ex_icmp_ge, ex_icmp_gt, ex_icmp_le, ex_ifc_eq, ex_ifc_ne, ex_ifc_lt, ex_ifc_ge, ex_ifc_gt, ex_ifc_le, lget_cons0, lget_cons, lset1, lclr, isL, List.length_cons, List.length_nil, List.take, List.drop, List.take_zero, List.drop_zero, List.reverse_cons, List.reverse_nil, List.nil_append, List.cons_append, catS, Value.category, tl_some, tl_none, rf_some, rf_none, Int.toNat_natCast, Int.reduceToNat, Nat.reduceAdd, Nat.reduceLT, Nat.reduceLeDiff, Nat.reduceEqDiff, and_true, true_and, and_self, eq_self, reduceIte, false_and, and_false, Bool.false_eq_true, Bool.true_eq_false, or_true, true_or, or_false, false_or, not_true_eq_false, not_false_eq_true, ite_true, ite_false, if_true, if_false, linit, largs, List.replicate, Nat.reduceSub, Nat.sub_self, kim1000000000, kim2, kim1, ki0, ki1, ki2, ki3, ki4, ki5, ki6, ki7, ki8, ki9, ki10, ki12, ki15, ki16, ki20, ki24, ki30, ki32, ki33, ki38, ki40, ki41, ki42, ki43, ki44, ki45, ki46, ki47, ki48, ki50, ki52, ki57, ki58, ki59, ki60, ki61, ki62, ki63, ki91, ki93, ki97, ki99, ki100, ki102, ki108, ki109, ki110, ki111, ki116, ki119, ki120, ki121, ki124, ki128, ki200, ki240, ki255, ki480, ki680, ki999, ki1000, ki7776, ki252645135, ki858993459, ki1431655765, klm1000000000, klm1000000, klm1, kl0, kl1, kl2, kl3, kl4, kl5, kl12, kl60, kl99, kl999, kl1000, kl1000000, kl1000000000, kl4294967295, kl1442695040888963407, kl6364136223846793005, hK_sI, hN_sI, hI_sI, hL_sI, hR_sI, hZ_sI, hC_sI, hS_sI, hK_sL, hN_sL, hI_sL, hL_sL, hR_sL, hZ_sL, hC_sL, hS_sL, hK_sR, hN_sR, hI_sR, hL_sR, hR_sR, hZ_sR, hC_sR, hS_sR, hK_sA, hN_sA, hI_sA, hL_sA, hR_sA, hK_sLA, hN_sLA, hI_sLA, hL_sLA, hR_sLA, up2_at, vu_at, decide_true, decide_false, Bool.false_and, Bool.true_and, Bool.and_true, Bool.and_false, nI_ltN, nI_leN, nI_eqN, nI_eq0, nI_lt0N, nI_le0N, nI_gt0N, nI_le00N, nI_add, nI_mul, bB_0, bB_n, d_le, d_nle, d_lt, d_nlt, d_eq, d_ne, u_k0, u_k1, u_k4, u_k5, u_k7, u_k8, u_k11, u_k14, u_k21, u_k24, u_k33, u_k36, u_k37, u_k41, u_k45, u_k55, u_k66, u_k68, u_k70, u_k72, u_k74, b134_3, b134_4, a1, a3, e1, e2, e3, q, u_gI74, u_gL74, u_pL74, u_pI74, u_pZa74, u_pZb74, u_pZc74, u_pR74, u_gD74, u_rf74_1, u_rf74_2, u_rf74_3, u_rf74_4, u_rf74_15, u_rf74_16, u_rf74_18, u_rf74_19, u_rf74_21, u_rf74_22, u_rf74_23, u_rf74_24, u_rf74_25, u_rf74_26, u_rf74_27, u_rf74_28, u_rf74_29, u_rf74_39, u_rf74_41, u_rf74_42, u_rf74_43, u_rf74_45, u_rf74_46, u_k74, u_k91, u_n91, u_ld91, u_st91, u_al91, u_k92, u_n92, u_ld92, u_st92, u_al92, u_k93, u_n93, u_ld93, u_st93, u_al93]
          exact next
    simp (disch := first | (simp only [Fr_sI, Fr_sL, Fr_sA, Fr_sLA]; assumption) | assumption | decide | omega | (simp only [List.length_cons, List.length_nil, List.drop_succ_cons, List.drop_zero, catS, Value.category, Nat.reduceAdd, Nat.reduceLT, Nat.reduceLeDiff, Nat.le_refl, and_self, and_true, true_and]; done) | (simp only [hK_sI, hN_sI, hK_sL, hN_sL, hK_sR, hN_sR, hK_sA, hN_sA, hK_sLA, hN_sLA]; first | assumption | omega)) only [ex_iadd, ex_isub, ex_imul, ex_iand, ex_ior, ex_ixor, ex_ishl, ex_ishr, ex_iushr, ex_ladd, ex_lsub, ex_lmul, ex_idiv, ex_irem, ex_ldiv, ex_lrem, ex_lshl, ex_lushr, ex_lcmp, ex_i2l, ex_l2i, ex_i2b, ex_iconst, ex_lconst, ex_null, ex_iload, ex_lload, ex_aload, ex_istore, ex_astore, ex_astoreN, ex_lstore, ex_iinc, ex_dup_int, ex_pop_int, ex_dup_ref, ex_pop_ref, ex_dup2l, ex_dup2ri, ex_pop2, ex_goto, ex_jsr, ex_ifnull, ex_ifnullN, ex_ifnn, ex_ifnnN, ex_calls, ex_callv, ex_ireturn, ex_zB, ex_z0, ex_z1, ex_lreturn, ex_vreturn, ex_obj, ex_icmp_eq, ex_icmp_ne, ex_icmp_lt, ex_icmp_ge, ex_icmp_gt, ex_icmp_le, ex_ifc_eq, ex_ifc_ne, ex_ifc_lt, ex_ifc_ge, ex_ifc_gt, ex_ifc_le, lget_cons0, lget_cons, lset1, lclr, isL, List.length_cons, List.length_nil, List.take, List.drop, List.take_zero, List.drop_zero, List.reverse_cons, List.reverse_nil, List.nil_append, List.cons_append, catS, Value.category, tl_some, tl_none, rf_some, rf_none, Int.toNat_natCast, Int.reduceToNat, Nat.reduceAdd, Nat.reduceLT, Nat.reduceLeDiff, Nat.reduceEqDiff, and_true, true_and, and_self, eq_self, reduceIte, false_and, and_false, Bool.false_eq_true, Bool.true_eq_false, or_true, true_or, or_false, false_or, not_true_eq_false, not_false_eq_true, ite_true, ite_false, if_true, if_false, linit, largs, List.replicate, Nat.reduceSub, Nat.sub_self, kim1000000000, kim2, kim1, ki0, ki1, ki2, ki3, ki4, ki5, ki6, ki7, ki8, ki9, ki10, ki12, ki15, ki16, ki20, ki24, ki30, ki32, ki33, ki38, ki40, ki41, ki42, ki43, ki44, ki45, ki46, ki47, ki48, ki50, ki52, ki57, ki58, ki59, ki60, ki61, ki62, ki63, ki91, ki93, ki97, ki99, ki100, ki102, ki108, ki109, ki110, ki111, ki116, ki119, ki120, ki121, ki124, ki128, ki200, ki240, ki255, ki480, ki680, ki999, ki1000, ki7776, ki252645135, ki858993459, ki1431655765, klm1000000000, klm1000000, klm1, kl0, kl1, kl2, kl3, kl4, kl5, kl12, kl60, kl99, kl999, kl1000, kl1000000, kl1000000000, kl4294967295, kl1442695040888963407, kl6364136223846793005, hK_sI, hN_sI, hI_sI, hL_sI, hR_sI, hZ_sI, hC_sI, hS_sI, hK_sL, hN_sL, hI_sL, hL_sL, hR_sL, hZ_sL, hC_sL, hS_sL, hK_sR, hN_sR, hI_sR, hL_sR, hR_sR, hZ_sR, hC_sR, hS_sR, hK_sA, hN_sA, hI_sA, hL_sA, hR_sA, hK_sLA, hN_sLA, hI_sLA, hL_sLA, hR_sLA, up2_at, vu_at, decide_true, decide_false, Bool.false_and, Bool.true_and, Bool.and_true, Bool.and_false, nI_ltN, nI_leN, nI_eqN, nI_eq0, nI_lt0N, nI_le0N, nI_gt0N, nI_le00N, nI_add, nI_mul, bB_0, bB_n, d_le, d_nle, d_lt, d_nlt, d_eq, d_ne, u_k0, u_k1, u_k4, u_k5, u_k7, u_k8, u_k11, u_k14, u_k21, u_k24, u_k33, u_k36, u_k37, u_k41, u_k45, u_k55, u_k66, u_k68, u_k70, u_k72, u_k74, b134_0, b134_1, hdd, nI_sub, u_gI74, u_gL74, u_pL74, u_pI74, u_pZa74, u_pZb74, u_pZc74, u_pR74, u_gD74, u_rf74_1, u_rf74_2, u_rf74_3, u_rf74_4, u_rf74_15, u_rf74_16, u_rf74_18, u_rf74_19, u_rf74_21, u_rf74_22, u_rf74_23, u_rf74_24, u_rf74_25, u_rf74_26, u_rf74_27, u_rf74_28, u_rf74_29, u_rf74_39, u_rf74_41, u_rf74_42, u_rf74_43, u_rf74_45, u_rf74_46, u_k74, u_k89, u_n89, u_ld89, u_st89, u_al89]
    refine key ac 0 (by omega) _ (((Sm.rf _ h |>.wI (a := 74) _ rfl).wI (a := 74) _ rfl).wL (a := 74) _ rfl) ?_ ?_ ?_ ?_
    · simp only [hK_sI, hN_sI, hI_sI, hL_sI, hR_sI, hZ_sI, hC_sI, hS_sI, hK_sL, hN_sL, hI_sL, hL_sL, hR_sL, hZ_sL, hC_sL, hS_sL, hK_sR, hN_sR, hI_sR, hL_sR, hR_sR, hZ_sR, hC_sR, hS_sR, hK_sA, hN_sA, hI_sA, hL_sA, hR_sA, hK_sLA, hN_sLA, hI_sLA, hL_sLA, hR_sLA, up2_at, vu_at]
      simp
    · simp only [hK_sI, hN_sI, hI_sI, hL_sI, hR_sI, hZ_sI, hC_sI, hS_sI, hK_sL, hN_sL, hI_sL, hL_sL, hR_sL, hZ_sL, hC_sL, hS_sL, hK_sR, hN_sR, hI_sR, hL_sR, hR_sR, hZ_sR, hC_sR, hS_sR, hK_sA, hN_sA, hI_sA, hL_sA, hR_sA, hK_sLA, hN_sLA, hI_sLA, hL_sLA, hR_sLA, up2_at, vu_at]
      simp
    · exact h44
    · exact fun i hi => (hk i hi).1
end
