/-! told: the model. -/
def sKp (a j : Nat) : Bool := a == 83 || a == 84 || a == 86 || a == 87 || a == 88 || a == 89 || (a == 74 && (j == 0 || j == 30))
section
variable {D n d : Nat} {cl ys φ : Nat → Nat} {h : Hp} {Q : Option Value → Hp → Prop}
set_option maxHeartbeats 2000000 in
theorem ev_keepDawn {ag : Int32} {bf : Int64} (f : Fr h) (n5 : n ≤ 5) (hn : hI h 74 20 = nI n) (hc : ∀ j, j < 30 → hI h 79 j = nI (cl j) ∧ cl j ≤ 60) (hdd : hI h 74 30 = nI d) (d40 : d < 40) (hφ : ∀ l, l < n → hI h 83 l = nI (φ l) ∧ φ l < 6) (hy : ∀ i, i < n → (if d = 0 then nI 0 else hI h 86 (5 * (d - 1) + i)) = nI (ys i))
    (hQ : ∀ h1, Sm sKp h h1 → hI h1 74 30 = nI (d + 1) → kpH h h1 87 86 88 89 n d φ (holdN (fun i => cl (6 * i + φ i)) n ys 6) ag bf → Q (some (.int (nI (d + 1)))) h1) : Ev (D + 9) 131 [.ref 74, .int ag, .long bf] h Q := by
  rw [Ev_body 5 rfl rfl]
  have hlay := fun Q => @ev_layHolds (D + 5) n h Q d φ cl ys f hn n5 hφ hc hdd (by omega) hy
  obtain ⟨H, hH⟩ : ∃ H, sA h 84 (wrN (fun l => nI (holdN (fun i => cl (6 * i + φ i)) n ys 6 l)) (hI h 84) n) = H := ⟨_, rfl⟩
  have s0 : Sm sKp h H := by rw [← hH]; exact (Sm.rf sKp h).wA _ (fun _ => rfl)
  have e80 : ∀ l, l < n → hI H 84 l = nI (holdN (fun i => cl (6 * i + φ i)) n ys 6 l) := fun l hl => by
    rw [← hH, hI_sA, vu_at, if_pos rfl, wrN]
    rw [if_pos hl]
  have e79 : ∀ l, l < n → hI H 83 l = nI (φ l) := fun l hl => by rw [← hH]; exact (hφ l hl).1
  have i82 : ∀ j, hI H 86 j = hI h 86 j := fun j => by rw [← hH]; rfl
  have i83 : ∀ j, hI H 87 j = hI h 87 j := fun j => by rw [← hH]; rfl
  have i84 : ∀ j, hI H 88 j = hI h 88 j := fun j => by rw [← hH]; rfl
  have i85 : ∀ j, hL H 89 j = hL h 89 j := fun j => by rw [← hH]; rfl
  have i20 : hI H 74 20 = nI n := by rw [← hH]; exact hn
  have i30 : hI H 74 30 = nI d := by rw [← hH]; exact hdd
  have key : ∀ r j, j + r = n → ∀ h1, Sm sKp h h1 → hI h1 74 30 = nI d → (∀ l, l < n → hI h1 84 l = nI (holdN (fun i => cl (6 * i + φ i)) n ys 6 l)) → (∀ l, l < n → hI h1 83 l = nI (φ l)) → (∀ i, hI h1 87 i = if 5 * d ≤ i ∧ i < 5 * d + j then nI (φ (i - 5 * d)) else hI h 87 i) → (∀ i, hI h1 86 i = if 5 * d ≤ i ∧ i < 5 * d + j then nI (holdN (fun i => cl (6 * i + φ i)) n ys 6 (i - 5 * d)) else hI h 86 i) → (∀ j, hI h1 88 j = hI h 88 j) → (∀ j, hL h1 89 j = hL h 89 j) → Ex none (D + 8) 131 (blk 131 1) [some (.ref 74), some (.int ag), some (.long bf), none, some (.int (nI j))] [] h1 Q := by
    intro r
    induction r with
    | zero =>
      intro j hj h1 s1 a1 a2 a3 a4 a5 a6 a7
      have hj : j = n := by omega
      subst hj
      have f1 : Fr h1 := s1.fr f (by decide)
      have n1 : hI h1 74 20 = nI j := (s1.i 74 20 rfl).trans hn
      rw [b131_1]
      simp (disch := first | (simp only [Fr_sI, Fr_sL, Fr_sA, Fr_sLA]; assumption) | assumption | decide | omega | (simp only [List.length_cons, List.length_nil, List.drop_succ_cons, List.drop_zero, catS, Value.category, Nat.reduceAdd, Nat.reduceLT, Nat.reduceLeDiff, Nat.le_refl, and_self, and_true, true_and]; done) | (simp only [hK_sI, hN_sI, hK_sL, hN_sL, hK_sR, hN_sR, hK_sA, hN_sA, hK_sLA, hN_sLA]; first | assumption | omega)) only [ex_iadd, ex_isub, ex_imul, ex_iand, ex_ior, ex_ixor, ex_ishl, ex_ishr, ex_iushr, ex_ladd, ex_lsub, ex_lmul, ex_idiv, ex_irem, ex_ldiv, ex_lrem, ex_lshl, ex_lushr, ex_lcmp, ex_i2l, ex_l2i, ex_i2b, ex_iconst, ex_lconst, ex_null, ex_iload, ex_lload, ex_aload, ex_istore, ex_astore, ex_astoreN, ex_lstore, ex_iinc, ex_dup_int, ex_pop_int, ex_dup_ref, ex_pop_ref, ex_dup2l, ex_dup2ri, ex_pop2, ex_goto, ex_jsr, ex_ifnull, ex_ifnullN, ex_ifnn, ex_ifnnN, ex_calls, ex_callv, ex_ireturn, ex_zB, ex_z0, ex_z1, ex_lreturn, ex_vreturn, ex_obj, ex_icmp_eq, ex_icmp_ne, ex_icmp_lt, ex_icmp_ge, ex_icmp_gt, ex_icmp_le, ex_ifc_eq, ex_ifc_ne, ex_ifc_lt, ex_ifc_ge, ex_ifc_gt, ex_ifc_le, lget_cons0, lget_cons, lset1, lclr, isL, List.length_cons, List.length_nil, List.take, List.drop, List.take_zero, List.drop_zero, List.reverse_cons, List.reverse_nil, List.nil_append, List.cons_append, catS, Value.category, tl_some, tl_none, rf_some, rf_none, Int.toNat_natCast, Int.reduceToNat, Nat.reduceAdd, Nat.reduceLT, Nat.reduceLeDiff, Nat.reduceEqDiff, and_true, true_and, and_self, eq_self, reduceIte, false_and, and_false, Bool.false_eq_true, Bool.true_eq_false, or_true, true_or, or_false, false_or, not_true_eq_false, not_false_eq_true, ite_true, ite_false, if_true, if_false, linit, largs, List.replicate, Nat.reduceSub, Nat.sub_self, kim1000000000, kim2, kim1, ki0, ki1, ki2, ki3, ki4, ki5, ki6, ki7, ki8, ki9, ki10, ki12, ki15, ki16, ki20, ki24, ki30, ki32, ki33, ki38, ki40, ki41, ki42, ki43, ki44, ki45, ki46, ki47, ki48, ki50, ki52, ki57, ki58, ki59, ki60, ki61, ki62, ki63, ki91, ki93, ki97, ki99, ki100, ki102, ki108, ki109, ki110, ki111, ki116, ki119, ki120, ki121, ki124, ki128, ki200, ki240, ki255, ki480, ki680, ki999, ki1000, ki7776, ki252645135, ki858993459, ki1431655765, klm1000000000, klm1000000, klm1, kl0, kl1, kl2, kl3, kl4, kl5, kl12, kl60, kl99, kl999, kl1000, kl1000000, kl1000000000, kl4294967295, kl1442695040888963407, kl6364136223846793005, hK_sI, hN_sI, hI_sI, hL_sI, hR_sI, hZ_sI, hC_sI, hS_sI, hK_sL, hN_sL, hI_sL, hL_sL, hR_sL, hZ_sL, hC_sL, hS_sL, hK_sR, hN_sR, hI_sR, hL_sR, hR_sR, hZ_sR, hC_sR, hS_sR, hK_sA, hN_sA, hI_sA, hL_sA, hR_sA, hK_sLA, hN_sLA, hI_sLA, hL_sLA, hR_sLA, up2_at, vu_at, decide_true, decide_false, Bool.false_and, Bool.true_and, Bool.and_true, Bool.and_false, nI_ltN, nI_leN, nI_eqN, nI_eq0, nI_lt0N, nI_le0N, nI_gt0N, nI_le00N, nI_add, nI_mul, bB_0, bB_n, d_le, d_nle, d_lt, d_nlt, d_eq, d_ne, u_k0, u_k1, u_k4, u_k5, u_k7, u_k8, u_k11, u_k14, u_k21, u_k24, u_k33, u_k36, u_k37, u_k41, u_k45, u_k55, u_k66, u_k68, u_k70, u_k72, u_k74, b131_2, n1, a1, u_gI74, u_gL74, u_pL74, u_pI74, u_pZa74, u_pZb74, u_pZc74, u_pR74, u_gD74, u_rf74_1, u_rf74_2, u_rf74_3, u_rf74_4, u_rf74_15, u_rf74_16, u_rf74_18, u_rf74_19, u_rf74_21, u_rf74_22, u_rf74_23, u_rf74_24, u_rf74_25, u_rf74_26, u_rf74_27, u_rf74_28, u_rf74_29, u_rf74_39, u_rf74_41, u_rf74_42, u_rf74_43, u_rf74_45, u_rf74_46, u_k74, u_k88, u_n88, u_ld88, u_st88, u_al88, u_k89, u_n89, u_ld89, u_st89, u_al89]
      refine hQ _ (((s1.wI (a := 88) _ rfl).wL (a := 89) _ rfl).wI (a := 74) _ rfl) rfl ⟨a4, a5, fun i => ?_, fun i => ?_⟩
      · have e : ∀ (H : Hp) v w u, hI (sI (sL (sI H 88 d v) 89 d w) 74 30 u) 88 i = if i = d then v else hI H 88 i := by
          intro H v w u
          simp only [hK_sI, hN_sI, hI_sI, hL_sI, hR_sI, hZ_sI, hC_sI, hS_sI, hK_sL, hN_sL, hI_sL, hL_sL, hR_sL, hZ_sL, hC_sL, hS_sL, hK_sR, hN_sR, hI_sR, hL_sR, hR_sR, hZ_sR, hC_sR, hS_sR, hK_sA, hN_sA, hI_sA, hL_sA, hR_sA, hK_sLA, hN_sLA, hI_sLA, hL_sLA, hR_sLA, up2_at, vu_at]
          by_cases q : i = d
          · simp [q]
          · simp [q]
        rw [e, a6]
      · have e : ∀ (H : Hp) v w u, hL (sI (sL (sI H 88 d v) 89 d w) 74 30 u) 89 i = if i = d then w else hL H 89 i := by
          intro H v w u
          simp only [hK_sI, hN_sI, hI_sI, hL_sI, hR_sI, hZ_sI, hC_sI, hS_sI, hK_sL, hN_sL, hI_sL, hL_sL, hR_sL, hZ_sL, hC_sL, hS_sL, hK_sR, hN_sR, hI_sR, hL_sR, hR_sR, hZ_sR, hC_sR, hS_sR, hK_sA, hN_sA, hI_sA, hL_sA, hR_sA, hK_sLA, hN_sLA, hI_sLA, hL_sLA, hR_sLA, up2_at, vu_at]
          by_cases q : i = d
          · simp [q]
          · simp [q]
        rw [e, a7]
    | succ r ih =>
      intro j hj h1 s1 a1 a2 a3 a4 a5 a6 a7
      have f1 : Fr h1 := s1.fr f (by decide)
      have n1 : hI h1 74 20 = nI n := (s1.i 74 20 rfl).trans hn
      have q1 := a2 j (by omega)
      have q2 := a3 j (by omega)
      rw [b131_1]
      simp (disch := first | (simp only [Fr_sI, Fr_sL, Fr_sA, Fr_sLA]; assumption) | assumption | decide | omega | (simp only [List.length_cons, List.length_nil, List.drop_succ_cons, List.drop_zero, catS, Value.category, Nat.reduceAdd, Nat.reduceLT, Nat.reduceLeDiff, Nat.le_refl, and_self, and_true, true_and]; done) | (simp only [hK_sI, hN_sI, hK_sL, hN_sL, hK_sR, hN_sR, hK_sA, hN_sA, hK_sLA, hN_sLA]; first | assumption | omega)) only [ex_iadd, ex_isub, ex_imul, ex_iand, ex_ior, ex_ixor, ex_ishl, ex_ishr, ex_iushr, ex_ladd, ex_lsub, ex_lmul, ex_idiv, ex_irem, ex_ldiv, ex_lrem, ex_lshl, ex_lushr, ex_lcmp, ex_i2l, ex_l2i, ex_i2b, ex_iconst, ex_lconst, ex_null, ex_iload, ex_lload, ex_aload, ex_istore, ex_astore, ex_astoreN, ex_lstore, ex_iinc, ex_dup_int, ex_pop_int, ex_dup_ref, ex_pop_ref, ex_dup2l, ex_dup2ri, ex_pop2, ex_goto, ex_jsr, ex_ifnull, ex_ifnullN, ex_ifnn, ex_ifnnN, ex_calls, ex_callv, ex_ireturn, ex_zB, ex_z0, ex_z1, ex_lreturn, ex_vreturn, ex_obj, ex_icmp_eq, ex_icmp_ne, ex_icmp_lt, ex_icmp_ge, ex_icmp_gt, ex_icmp_le, ex_ifc_eq, ex_ifc_ne, ex_ifc_lt, ex_ifc_ge, ex_ifc_gt, ex_ifc_le, lget_cons0, lget_cons, lset1, lclr, isL, List.length_cons, List.length_nil, List.take, List.drop, List.take_zero, List.drop_zero, List.reverse_cons, List.reverse_nil, List.nil_append, List.cons_append, catS, Value.category, tl_some, tl_none, rf_some, rf_none, Int.toNat_natCast, Int.reduceToNat, Nat.reduceAdd, Nat.reduceLT, Nat.reduceLeDiff, Nat.reduceEqDiff, and_true, true_and, and_self, eq_self, reduceIte, false_and, and_false, Bool.false_eq_true, Bool.true_eq_false, or_true, true_or, or_false, false_or, not_true_eq_false, not_false_eq_true, ite_true, ite_false, if_true, if_false, linit, largs, List.replicate, Nat.reduceSub, Nat.sub_self, kim1000000000, kim2, kim1, ki0, ki1, ki2, ki3, ki4, ki5, ki6, ki7, ki8, ki9, ki10, ki12, ki15, ki16, ki20, ki24, ki30, ki32, ki33, ki38, ki40, ki41, ki42, ki43, ki44, ki45, ki46, ki47, ki48, ki50, ki52, ki57, ki58, ki59, ki60, ki61, ki62, ki63, ki91, ki93, ki97, ki99, ki100, ki102, ki108, ki109, ki110, ki111, ki116, ki119, ki120, ki121, ki124, ki128, ki200, ki240, ki255, ki480, ki680, ki999, ki1000, ki7776, ki252645135, ki858993459, ki1431655765, klm1000000000, klm1000000, klm1, kl0, kl1, kl2, kl3, kl4, kl5, kl12, kl60, kl99, kl999, kl1000, kl1000000, kl1000000000, kl4294967295, kl1442695040888963407, kl6364136223846793005, hK_sI, hN_sI, hI_sI, hL_sI, hR_sI, hZ_sI, hC_sI, hS_sI, hK_sL, hN_sL, hI_sL, hL_sL, hR_sL, hZ_sL, hC_sL, hS_sL, hK_sR, hN_sR, hI_sR, hL_sR, hR_sR, hZ_sR, hC_sR, hS_sR, hK_sA, hN_sA, hI_sA, hL_sA, hR_sA, hK_sLA, hN_sLA, hI_sLA, hL_sLA, hR_sLA, up2_at, vu_at, decide_true, decide_false, Bool.false_and, Bool.true_and, Bool.and_true, Bool.and_false, nI_ltN, nI_leN, nI_eqN, nI_eq0, nI_lt0N, nI_le0N, nI_gt0N, nI_le00N, nI_add, nI_mul, bB_0, bB_n, d_le, d_nle, d_lt, d_nlt, d_eq, d_ne, u_k0, u_k1, u_k4, u_k5, u_k7, u_k8, u_k11, u_k14, u_k21, u_k24, u_k33, u_k36, u_k37, u_k41, u_k45, u_k55, u_k66, u_k68, u_k70, u_k72, u_k74, n1, a1, q1, q2, u_gI74, u_gL74, u_pL74, u_pI74, u_pZa74, u_pZb74, u_pZc74, u_pR74, u_gD74, u_rf74_1, u_rf74_2, u_rf74_3, u_rf74_4, u_rf74_15, u_rf74_16, u_rf74_18, u_rf74_19, u_rf74_21, u_rf74_22, u_rf74_23, u_rf74_24, u_rf74_25, u_rf74_26, u_rf74_27, u_rf74_28, u_rf74_29, u_rf74_39, u_rf74_41, u_rf74_42, u_rf74_43, u_rf74_45, u_rf74_46, u_k74, u_k83, u_n83, u_ld83, u_st83, u_al83, u_k84, u_n84, u_ld84, u_st84, u_al84, u_k86, u_n86, u_ld86, u_st86, u_al86, u_k87, u_n87, u_ld87, u_st87, u_al87]
      refine ih (j + 1) (by omega) _ ((s1.wI (a := 87) _ rfl).wI (a := 86) _ rfl) a1 a2 a3 (fun i => ?_) (fun i => ?_) a6 a7
      · have e : ∀ (H : Hp) v w, hI (sI (sI H 87 (5 * d + j) v) 86 (5 * d + j) w) 87 i = if i = 5 * d + j then v else hI H 87 i := by
          intro H v w
          simp only [hK_sI, hN_sI, hI_sI, hL_sI, hR_sI, hZ_sI, hC_sI, hS_sI, hK_sL, hN_sL, hI_sL, hL_sL, hR_sL, hZ_sL, hC_sL, hS_sL, hK_sR, hN_sR, hI_sR, hL_sR, hR_sR, hZ_sR, hC_sR, hS_sR, hK_sA, hN_sA, hI_sA, hL_sA, hR_sA, hK_sLA, hN_sLA, hI_sLA, hL_sLA, hR_sLA, up2_at, vu_at]
          by_cases q : i = 5 * d + j
          · simp [q]
          · simp [q]
        rw [e, a4 i]
        by_cases q : i = 5 * d + j
        · rw [if_pos q, if_pos (by omega), show i - 5 * d = j from by omega]
        · rw [if_neg q]
          by_cases q2 : 5 * d ≤ i ∧ i < 5 * d + j
          · rw [if_pos q2, if_pos (by omega)]
          · rw [if_neg q2, if_neg (by omega)]
      · have e : ∀ (H : Hp) v w, hI (sI (sI H 87 (5 * d + j) v) 86 (5 * d + j) w) 86 i = if i = 5 * d + j then w else hI H 86 i := by
          intro H v w
          simp only [hK_sI, hN_sI, hI_sI, hL_sI, hR_sI, hZ_sI, hC_sI, hS_sI, hK_sL, hN_sL, hI_sL, hL_sL, hR_sL, hZ_sL, hC_sL, hS_sL, hK_sR, hN_sR, hI_sR, hL_sR, hR_sR, hZ_sR, hC_sR, hS_sR, hK_sA, hN_sA, hI_sA, hL_sA, hR_sA, hK_sLA, hN_sLA, hI_sLA, hL_sLA, hR_sLA, up2_at, vu_at]
          by_cases q : i = 5 * d + j
          · simp [q]
          · simp [q]
        rw [e, a5 i]
        by_cases q : i = 5 * d + j
        · rw [if_pos q, if_pos (by omega), show i - 5 * d = j from by omega]
        · rw [if_neg q]
          by_cases q2 : 5 * d ≤ i ∧ i < 5 * d + j
          · rw [if_pos q2, if_pos (by omega)]
          · rw [if_neg q2, if_neg (by omega)]
  simp (disch := first | (simp only [Fr_sI, Fr_sL, Fr_sA, Fr_sLA]; assumption) | assumption | decide | omega | (simp only [List.length_cons, List.length_nil, List.drop_succ_cons, List.drop_zero, catS, Value.category, Nat.reduceAdd, Nat.reduceLT, Nat.reduceLeDiff, Nat.le_refl, and_self, and_true, true_and]; done) | (simp only [hK_sI, hN_sI, hK_sL, hN_sL, hK_sR, hN_sR, hK_sA, hN_sA, hK_sLA, hN_sLA]; first | assumption | omega)) only [ex_iadd, ex_isub, ex_imul, ex_iand, ex_ior, ex_ixor, ex_ishl, ex_ishr, ex_iushr, ex_ladd, ex_lsub, ex_lmul, ex_idiv, ex_irem, ex_ldiv, ex_lrem, ex_lshl, ex_lushr, ex_lcmp, ex_i2l, ex_l2i, ex_i2b, ex_iconst, ex_lconst, ex_null, ex_iload, ex_lload, ex_aload, ex_istore, ex_astore, ex_astoreN, ex_lstore, ex_iinc, ex_dup_int, ex_pop_int, ex_dup_ref, ex_pop_ref, ex_dup2l, ex_dup2ri, ex_pop2, ex_goto, ex_jsr, ex_ifnull, ex_ifnullN, ex_ifnn, ex_ifnnN, ex_calls, ex_callv, ex_ireturn, ex_zB, ex_z0, ex_z1, ex_lreturn, ex_vreturn, ex_obj, ex_icmp_eq, ex_icmp_ne, ex_icmp_lt, ex_icmp_ge, ex_icmp_gt, ex_icmp_le, ex_ifc_eq, ex_ifc_ne, ex_ifc_lt, ex_ifc_ge, ex_ifc_gt, ex_ifc_le, lget_cons0, lget_cons, lset1, lclr, isL, List.length_cons, List.length_nil, List.take, List.drop, List.take_zero, List.drop_zero, List.reverse_cons, List.reverse_nil, List.nil_append, List.cons_append, catS, Value.category, tl_some, tl_none, rf_some, rf_none, Int.toNat_natCast, Int.reduceToNat, Nat.reduceAdd, Nat.reduceLT, Nat.reduceLeDiff, Nat.reduceEqDiff, and_true, true_and, and_self, eq_self, reduceIte, false_and, and_false, Bool.false_eq_true, Bool.true_eq_false, or_true, true_or, or_false, false_or, not_true_eq_false, not_false_eq_true, ite_true, ite_false, if_true, if_false, linit, largs, List.replicate, Nat.reduceSub, Nat.sub_self, kim1000000000, kim2, kim1, ki0, ki1, ki2, ki3, ki4, ki5, ki6, ki7, ki8, ki9, ki10, ki12, ki15, ki16, ki20, ki24, ki30, ki32, ki33, ki38, ki40, ki41, ki42, ki43, ki44, ki45, ki46, ki47, ki48, ki50, ki52, ki57, ki58, ki59, ki60, ki61, ki62, ki63, ki91, ki93, ki97, ki99, ki100, ki102, ki108, ki109, ki110, ki111, ki116, ki119, ki120, ki121, ki124, ki128, ki200, ki240, ki255, ki480, ki680, ki999, ki1000, ki7776, ki252645135, ki858993459, ki1431655765, klm1000000000, klm1000000, klm1, kl0, kl1, kl2, kl3, kl4, kl5, kl12, kl60, kl99, kl999, kl1000, kl1000000, kl1000000000, kl4294967295, kl1442695040888963407, kl6364136223846793005, hK_sI, hN_sI, hI_sI, hL_sI, hR_sI, hZ_sI, hC_sI, hS_sI, hK_sL, hN_sL, hI_sL, hL_sL, hR_sL, hZ_sL, hC_sL, hS_sL, hK_sR, hN_sR, hI_sR, hL_sR, hR_sR, hZ_sR, hC_sR, hS_sR, hK_sA, hN_sA, hI_sA, hL_sA, hR_sA, hK_sLA, hN_sLA, hI_sLA, hL_sLA, hR_sLA, up2_at, vu_at, decide_true, decide_false, Bool.false_and, Bool.true_and, Bool.and_true, Bool.and_false, nI_ltN, nI_leN, nI_eqN, nI_eq0, nI_lt0N, nI_le0N, nI_gt0N, nI_le00N, nI_add, nI_mul, bB_0, bB_n, d_le, d_nle, d_lt, d_nlt, d_eq, d_ne, u_k0, u_k1, u_k4, u_k5, u_k7, u_k8, u_k11, u_k14, u_k21, u_k24, u_k33, u_k36, u_k37, u_k41, u_k45, u_k55, u_k66, u_k68, u_k70, u_k72, u_k74, b131_0, hlay, hH]
  exact key n 0 (by omega) H s0 i30 e80 e79 (fun i => by rw [if_neg (by omega)]; exact i83 i) (fun i => by rw [if_neg (by omega)]; exact i82 i) i84 i85
end
