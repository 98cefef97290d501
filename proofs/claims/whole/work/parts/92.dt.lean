/-! Diary.take: both directions. -/
section
variable {D : Nat} {h : Hp} {Q : Option Value → Hp → Prop}
set_option maxHeartbeats 2000000 in
theorem ev_diK (f : Fr h) (hQ : ∀ h1, Sm (fun (u j : Nat) => (u == 24 && (j == 0 || j == 1 || j == 2 || j == 3)) || u == 25 || u == 26 || u == 27 || u == 28 || u == 29) h h1 → hL h1 24 0 = hL h 14 0 → (∀ j, 1 ≤ j → j ≤ 3 → hI h1 24 j = hI h 14 j) → (∀ j, j < 200 → hI h1 25 j = hI h 15 j) → (∀ j, j < 200 → hI h1 26 j = hI h 16 j) → (∀ j, j < 40 → hI h1 27 j = hI h 17 j) → (∀ j, j < 240 → hI h1 28 j = hI h 18 j) → (∀ j, j < 40 → hL h1 29 j = hL h 19 j) → Q none h1) : Ev (D + 6) 231 [.ref 24, .ref 14] h Q := by
  obtain ⟨H0, hH0⟩ : ∃ H, sI (sI (sI (sL h 24 0 (hL h 14 0)) 24 1 (hI h 14 1)) 24 2 (hI h 14 2)) 24 3 (hI h 14 3) = H := ⟨_, rfl⟩
  have f0 : Fr H0 := by rw [← hH0]; simp only [Fr_sI, Fr_sL]; exact f
  have s0 : Sm (fun (u j : Nat) => (u == 24 && (j == 0 || j == 1 || j == 2 || j == 3)) || u == 25 || u == 26 || u == 27 || u == 28 || u == 29) h H0 := by rw [← hH0]; exact ((((Sm.rf _ h).wL (a := 24) _ rfl).wI (a := 24) _ rfl).wI (a := 24) _ rfl).wI (a := 24) _ rfl
  have l0 : hL H0 24 0 = hL h 14 0 := by rw [← hH0]; simp only [hK_sI, hN_sI, hI_sI, hL_sI, hR_sI, hZ_sI, hC_sI, hS_sI, hK_sL, hN_sL, hI_sL, hL_sL, hR_sL, hZ_sL, hC_sL, hS_sL, hK_sR, hN_sR, hI_sR, hL_sR, hR_sR, hZ_sR, hC_sR, hS_sR, hK_sA, hN_sA, hI_sA, hL_sA, hR_sA, hK_sLA, hN_sLA, hI_sLA, hL_sLA, hR_sLA, up2_at, vu_at]; simp
  have l1 : ∀ j, 1 ≤ j → j ≤ 3 → hI H0 24 j = hI h 14 j := fun j q1 q2 => by
    rw [← hH0]
    rcases (show j = 1 ∨ j = 2 ∨ j = 3 by omega) with q | q | q <;> subst q <;> simp only [hK_sI, hN_sI, hI_sI, hL_sI, hR_sI, hZ_sI, hC_sI, hS_sI, hK_sL, hN_sL, hI_sL, hL_sL, hR_sL, hZ_sL, hC_sL, hS_sL, hK_sR, hN_sR, hI_sR, hL_sR, hR_sR, hZ_sR, hC_sR, hS_sR, hK_sA, hN_sA, hI_sA, hL_sA, hR_sA, hK_sLA, hN_sLA, hI_sLA, hL_sLA, hR_sLA, up2_at, vu_at] <;> simp
  have k1 := fun Q => @ev_copyAll (D + 2) 15 25 200 H0 Q (by decide) (u_k15 f0) (u_k25 f0) (u_n25 f0) (by decide) (u_n15 f0)
  obtain ⟨H1, hH1⟩ : ∃ H, sA H0 25 (cpF (hI H0 15) (hI H0 25) 0 0 200) = H := ⟨_, rfl⟩
  rw [hH1] at k1
  have f1 : Fr H1 := by rw [← hH1]; simp only [Fr_sA]; exact f0
  have s1 : Sm (fun (u j : Nat) => (u == 24 && (j == 0 || j == 1 || j == 2 || j == 3)) || u == 25 || u == 26 || u == 27 || u == 28 || u == 29) h H1 := by rw [← hH1]; exact s0.wA (a := 25) _ (fun _ => by simp)
  have e1 : ∀ j, j < 200 → hI H1 25 j = hI h 15 j := fun j hj => by
    rw [← hH1, hI_sA, vu_at, if_pos rfl, cp_at hj]
    exact s0.i 15 j rfl
  have o1 : ∀ u j, u ≠ 25 → hI H1 u j = hI H0 u j := fun u j q => by rw [← hH1, hI_sA, vu_at, if_neg q]
  have p1 : ∀ u j, hL H1 u j = hL H0 u j := fun u j => by rw [← hH1]; rfl
  have k2 := fun Q => @ev_copyAll (D + 2) 16 26 200 H1 Q (by decide) (u_k16 f1) (u_k26 f1) (u_n26 f1) (by decide) (u_n16 f1)
  obtain ⟨H2, hH2⟩ : ∃ H, sA H1 26 (cpF (hI H1 16) (hI H1 26) 0 0 200) = H := ⟨_, rfl⟩
  rw [hH2] at k2
  have f2 : Fr H2 := by rw [← hH2]; simp only [Fr_sA]; exact f1
  have s2 : Sm (fun (u j : Nat) => (u == 24 && (j == 0 || j == 1 || j == 2 || j == 3)) || u == 25 || u == 26 || u == 27 || u == 28 || u == 29) h H2 := by rw [← hH2]; exact s1.wA (a := 26) _ (fun _ => by simp)
  have e2 : ∀ j, j < 200 → hI H2 26 j = hI h 16 j := fun j hj => by
    rw [← hH2, hI_sA, vu_at, if_pos rfl, cp_at hj]
    exact s1.i 16 j rfl
  have o2 : ∀ u j, u ≠ 26 → hI H2 u j = hI H1 u j := fun u j q => by rw [← hH2, hI_sA, vu_at, if_neg q]
  have p2 : ∀ u j, hL H2 u j = hL H1 u j := fun u j => by rw [← hH2]; rfl
  have k3 := fun Q => @ev_copyAll (D + 2) 17 27 40 H2 Q (by decide) (u_k17 f2) (u_k27 f2) (u_n27 f2) (by decide) (u_n17 f2)
  obtain ⟨H3, hH3⟩ : ∃ H, sA H2 27 (cpF (hI H2 17) (hI H2 27) 0 0 40) = H := ⟨_, rfl⟩
  rw [hH3] at k3
  have f3 : Fr H3 := by rw [← hH3]; simp only [Fr_sA]; exact f2
  have s3 : Sm (fun (u j : Nat) => (u == 24 && (j == 0 || j == 1 || j == 2 || j == 3)) || u == 25 || u == 26 || u == 27 || u == 28 || u == 29) h H3 := by rw [← hH3]; exact s2.wA (a := 27) _ (fun _ => by simp)
  have e3 : ∀ j, j < 40 → hI H3 27 j = hI h 17 j := fun j hj => by
    rw [← hH3, hI_sA, vu_at, if_pos rfl, cp_at hj]
    exact s2.i 17 j rfl
  have o3 : ∀ u j, u ≠ 27 → hI H3 u j = hI H2 u j := fun u j q => by rw [← hH3, hI_sA, vu_at, if_neg q]
  have p3 : ∀ u j, hL H3 u j = hL H2 u j := fun u j => by rw [← hH3]; rfl
  have k4 := fun Q => @ev_copyAll (D + 2) 18 28 240 H3 Q (by decide) (u_k18 f3) (u_k28 f3) (u_n28 f3) (by decide) (u_n18 f3)
  obtain ⟨H4, hH4⟩ : ∃ H, sA H3 28 (cpF (hI H3 18) (hI H3 28) 0 0 240) = H := ⟨_, rfl⟩
  rw [hH4] at k4
  have f4 : Fr H4 := by rw [← hH4]; simp only [Fr_sA]; exact f3
  have s4 : Sm (fun (u j : Nat) => (u == 24 && (j == 0 || j == 1 || j == 2 || j == 3)) || u == 25 || u == 26 || u == 27 || u == 28 || u == 29) h H4 := by rw [← hH4]; exact s3.wA (a := 28) _ (fun _ => by simp)
  have e4 : ∀ j, j < 240 → hI H4 28 j = hI h 18 j := fun j hj => by
    rw [← hH4, hI_sA, vu_at, if_pos rfl, cp_at hj]
    exact s3.i 18 j rfl
  have o4 : ∀ u j, u ≠ 28 → hI H4 u j = hI H3 u j := fun u j q => by rw [← hH4, hI_sA, vu_at, if_neg q]
  have p4 : ∀ u j, hL H4 u j = hL H3 u j := fun u j => by rw [← hH4]; rfl
  have key : ∀ r j, j + r = 40 → ∀ h1, Sm (fun (u j : Nat) => (u == 24 && (j == 0 || j == 1 || j == 2 || j == 3)) || u == 25 || u == 26 || u == 27 || u == 28 || u == 29) h h1 → (∀ u i, hI h1 u i = hI H4 u i) → (∀ i, hL h1 24 i = hL H4 24 i) → (∀ i, i < j → hL h1 29 i = hL h 19 i) → Ex none (D + 5) 231 (blk 231 1) [some (.ref 24), some (.ref 14), some (.int (nI j))] [] h1 Q := by
    intro r
    induction r with
    | zero =>
      intro j hj h1 s1 a1 a2 a3
      have hj : j = 40 := by omega
      subst hj
      have g1 : Fr h1 := s1.fr f (by decide)
      rw [b231_1]
      simp (disch := first | (simp only [Fr_sI, Fr_sL, Fr_sA, Fr_sLA]; assumption) | assumption | decide | omega | (simp only [List.length_cons, List.length_nil, List.drop_succ_cons, List.drop_zero, catS, Value.category, Nat.reduceAdd, Nat.reduceLT, Nat.reduceLeDiff, Nat.le_refl, and_self, and_true, true_and]; done) | (simp only [hK_sI, hN_sI, hK_sL, hN_sL, hK_sR, hN_sR, hK_sA, hN_sA, hK_sLA, hN_sLA]; first | assumption | omega)) only [ex_iadd, ex_isub, ex_imul, ex_iand, ex_ior, ex_ixor, ex_ishl, ex_ishr, ex_iushr, ex_ladd, ex_lsub, ex_lmul, ex_idiv, ex_irem, ex_ldiv, ex_lrem, ex_lshl, ex_lushr, ex_lcmp, ex_i2l, ex_l2i, ex_i2b, ex_iconst, ex_lconst, ex_null, ex_iload, ex_lload, ex_aload, ex_istore, ex_astore, ex_astoreN, ex_lstore, ex_iinc, ex_dup_int, ex_pop_int, ex_dup_ref, ex_pop_ref, ex_dup2l, ex_dup2ri, ex_pop2, ex_goto, ex_jsr, ex_ifnull, ex_ifnullN, ex_ifnn, ex_ifnnN, ex_calls, ex_callv, ex_ireturn, ex_zB, ex_z0, ex_z1, ex_lreturn, ex_vreturn, ex_obj, ex_icmp_eq, ex_icmp_ne, ex_icmp_lt, ex_icmp_ge, ex_icmp_gt, ex_icmp_le, ex_ifc_eq, ex_ifc_ne, ex_ifc_lt, ex_ifc_ge, ex_ifc_gt, ex_ifc_le, lget_cons0, lget_cons, lset1, lclr, isL, List.length_cons, List.length_nil, List.take, List.drop, List.take_zero, List.drop_zero, List.reverse_cons, List.reverse_nil, List.nil_append, List.cons_append, catS, Value.category, tl_some, tl_none, rf_some, rf_none, Int.toNat_natCast, Int.reduceToNat, Nat.reduceAdd, Nat.reduceLT, Nat.reduceLeDiff, Nat.reduceEqDiff, and_true, true_and, and_self, eq_self, reduceIte, false_and, and_false, Bool.false_eq_true, Bool.true_eq_false, or_true, true_or, or_false, false_or, not_true_eq_false, not_false_eq_true, ite_true, ite_false, if_true, if_false, linit, largs, List.replicate, Nat.reduceSub, Nat.sub_self, kim1000000000, kim2, kim1, ki0, ki1, ki2, ki3, ki4, ki5, ki6, ki7, ki8, ki9, ki10, ki12, ki15, ki16, ki20, ki24, ki30, ki32, ki33, ki38, ki40, ki41, ki42, ki43, ki44, ki45, ki46, ki47, ki48, ki50, ki52, ki57, ki58, ki59, ki60, ki61, ki62, ki63, ki91, ki93, ki97, ki99, ki100, ki102, ki108, ki109, ki110, ki111, ki116, ki119, ki120, ki121, ki124, ki128, ki200, ki240, ki255, ki480, ki680, ki999, ki1000, ki7776, ki252645135, ki858993459, ki1431655765, klm1000000000, klm1000000, klm1, kl0, kl1, kl2, kl3, kl4, kl5, kl12, kl60, kl99, kl999, kl1000, kl1000000, kl1000000000, kl4294967295, kl1442695040888963407, kl6364136223846793005, hK_sI, hN_sI, hI_sI, hL_sI, hR_sI, hZ_sI, hC_sI, hS_sI, hK_sL, hN_sL, hI_sL, hL_sL, hR_sL, hZ_sL, hC_sL, hS_sL, hK_sR, hN_sR, hI_sR, hL_sR, hR_sR, hZ_sR, hC_sR, hS_sR, hK_sA, hN_sA, hI_sA, hL_sA, hR_sA, hK_sLA, hN_sLA, hI_sLA, hL_sLA, hR_sLA, up2_at, vu_at, decide_true, decide_false, Bool.false_and, Bool.true_and, Bool.and_true, Bool.and_false, nI_ltN, nI_leN, nI_eqN, nI_eq0, nI_lt0N, nI_le0N, nI_gt0N, nI_le00N, nI_add, nI_mul, bB_0, bB_n, d_le, d_nle, d_lt, d_nlt, d_eq, d_ne, u_k0, u_k1, u_k4, u_k5, u_k7, u_k8, u_k11, u_k14, u_k21, u_k24, u_k33, u_k36, u_k37, u_k41, u_k45, u_k55, u_k66, u_k68, u_k70, u_k72, u_k74, b231_2, u_gI24, u_gL24, u_pL24, u_pI24, u_rf24_4, u_rf24_5, u_rf24_6, u_rf24_7, u_rf24_8, u_rf24_9, u_k24, u_k29, u_n29, u_ld29, u_st29, u_at29, u_pt29, u_rs29, u_al29]
      refine hQ h1 s1 ?_ (fun j q1 q2 => ?_) (fun j hj => ?_) (fun j hj => ?_) (fun j hj => ?_) (fun j hj => ?_) a3
      · rw [a2, p4, p3, p2, p1]; exact l0
      · rw [a1, o4 _ _ (by decide), o3 _ _ (by decide), o2 _ _ (by decide), o1 _ _ (by decide)]; exact l1 j q1 q2
      · rw [a1, o4 _ _ (by decide), o3 _ _ (by decide), o2 _ _ (by decide)]; exact e1 j hj
      · rw [a1, o4 _ _ (by decide), o3 _ _ (by decide)]; exact e2 j hj
      · rw [a1, o4 _ _ (by decide)]; exact e3 j hj
      · rw [a1]; exact e4 j hj
    | succ r ih =>
      intro j hj h1 s1 a1 a2 a3
      have g1 : Fr h1 := s1.fr f (by decide)
      have v := s1.l 19 j rfl
      rw [b231_1]
      simp (disch := first | (simp only [Fr_sI, Fr_sL, Fr_sA, Fr_sLA]; assumption) | assumption | decide | omega | (simp only [List.length_cons, List.length_nil, List.drop_succ_cons, List.drop_zero, catS, Value.category, Nat.reduceAdd, Nat.reduceLT, Nat.reduceLeDiff, Nat.le_refl, and_self, and_true, true_and]; done) | (simp only [hK_sI, hN_sI, hK_sL, hN_sL, hK_sR, hN_sR, hK_sA, hN_sA, hK_sLA, hN_sLA]; first | assumption | omega)) only [ex_iadd, ex_isub, ex_imul, ex_iand, ex_ior, ex_ixor, ex_ishl, ex_ishr, ex_iushr, ex_ladd, ex_lsub, ex_lmul, ex_idiv, ex_irem, ex_ldiv, ex_lrem, ex_lshl, ex_lushr, ex_lcmp, ex_i2l, ex_l2i, ex_i2b, ex_iconst, ex_lconst, ex_null, ex_iload, ex_lload, ex_aload, ex_istore, ex_astore, ex_astoreN, ex_lstore, ex_iinc, ex_dup_int, ex_pop_int, ex_dup_ref, ex_pop_ref, ex_dup2l, ex_dup2ri, ex_pop2, ex_goto, ex_jsr, ex_ifnull, ex_ifnullN, ex_ifnn, ex_ifnnN, ex_calls, ex_callv, ex_ireturn, ex_zB, ex_z0, ex_z1, ex_lreturn, ex_vreturn, ex_obj, ex_icmp_eq, ex_icmp_ne, ex_icmp_lt, ex_icmp_ge, ex_icmp_gt, ex_icmp_le, ex_ifc_eq, ex_ifc_ne, ex_ifc_lt, ex_ifc_ge, ex_ifc_gt, ex_ifc_le, lget_cons0, lget_cons, lset1, lclr, isL, List.length_cons, List.length_nil, List.take, List.drop, List.take_zero, List.drop_zero, List.reverse_cons, List.reverse_nil, List.nil_append, List.cons_append, catS, Value.category, tl_some, tl_none, rf_some, rf_none, Int.toNat_natCast, Int.reduceToNat, Nat.reduceAdd, Nat.reduceLT, Nat.reduceLeDiff, Nat.reduceEqDiff, and_true, true_and, and_self, eq_self, reduceIte, false_and, and_false, Bool.false_eq_true, Bool.true_eq_false, or_true, true_or, or_false, false_or, not_true_eq_false, not_false_eq_true, ite_true, ite_false, if_true, if_false, linit, largs, List.replicate, Nat.reduceSub, Nat.sub_self, kim1000000000, kim2, kim1, ki0, ki1, ki2, ki3, ki4, ki5, ki6, ki7, ki8, ki9, ki10, ki12, ki15, ki16, ki20, ki24, ki30, ki32, ki33, ki38, ki40, ki41, ki42, ki43, ki44, ki45, ki46, ki47, ki48, ki50, ki52, ki57, ki58, ki59, ki60, ki61, ki62, ki63, ki91, ki93, ki97, ki99, ki100, ki102, ki108, ki109, ki110, ki111, ki116, ki119, ki120, ki121, ki124, ki128, ki200, ki240, ki255, ki480, ki680, ki999, ki1000, ki7776, ki252645135, ki858993459, ki1431655765, klm1000000000, klm1000000, klm1, kl0, kl1, kl2, kl3, kl4, kl5, kl12, kl60, kl99, kl999, kl1000, kl1000000, kl1000000000, kl4294967295, kl1442695040888963407, kl6364136223846793005, hK_sI, hN_sI, hI_sI, hL_sI, hR_sI, hZ_sI, hC_sI, hS_sI, hK_sL, hN_sL, hI_sL, hL_sL, hR_sL, hZ_sL, hC_sL, hS_sL, hK_sR, hN_sR, hI_sR, hL_sR, hR_sR, hZ_sR, hC_sR, hS_sR, hK_sA, hN_sA, hI_sA, hL_sA, hR_sA, hK_sLA, hN_sLA, hI_sLA, hL_sLA, hR_sLA, up2_at, vu_at, decide_true, decide_false, Bool.false_and, Bool.true_and, Bool.and_true, Bool.and_false, nI_ltN, nI_leN, nI_eqN, nI_eq0, nI_lt0N, nI_le0N, nI_gt0N, nI_le00N, nI_add, nI_mul, bB_0, bB_n, d_le, d_nle, d_lt, d_nlt, d_eq, d_ne, u_k0, u_k1, u_k4, u_k5, u_k7, u_k8, u_k11, u_k14, u_k21, u_k24, u_k33, u_k36, u_k37, u_k41, u_k45, u_k55, u_k66, u_k68, u_k70, u_k72, u_k74, v, u_gI24, u_gL24, u_pL24, u_pI24, u_rf24_4, u_rf24_5, u_rf24_6, u_rf24_7, u_rf24_8, u_rf24_9, u_k24, u_gI14, u_gL14, u_pL14, u_pI14, u_rf14_4, u_rf14_5, u_rf14_6, u_rf14_7, u_rf14_8, u_rf14_9, u_k14, u_k29, u_n29, u_ld29, u_st29, u_at29, u_pt29, u_rs29, u_al29, u_k19, u_n19, u_ld19, u_st19, u_at19, u_pt19, u_rs19, u_al19]
      refine ih (j + 1) (by omega) _ (s1.wL (a := 29) _ rfl) a1 a2 (fun i hi => ?_)
      have e : ∀ (H : Hp) w, hL (sL H 29 j w) 29 i = if i = j then w else hL H 29 i := by
        intro H w
        simp only [hK_sI, hN_sI, hI_sI, hL_sI, hR_sI, hZ_sI, hC_sI, hS_sI, hK_sL, hN_sL, hI_sL, hL_sL, hR_sL, hZ_sL, hC_sL, hS_sL, hK_sR, hN_sR, hI_sR, hL_sR, hR_sR, hZ_sR, hC_sR, hS_sR, hK_sA, hN_sA, hI_sA, hL_sA, hR_sA, hK_sLA, hN_sLA, hI_sLA, hL_sLA, hR_sLA, up2_at, vu_at]
        by_cases q : i = j
        · simp [q]
        · simp [q]
      rw [e]
      by_cases q : i = j
      · rw [if_pos q, q]
      · rw [if_neg q]
        exact a3 i (by omega)
  rw [Ev_body 3 rfl rfl]
  simp (disch := first | (simp only [Fr_sI, Fr_sL, Fr_sA, Fr_sLA]; assumption) | assumption | decide | omega | (simp only [List.length_cons, List.length_nil, List.drop_succ_cons, List.drop_zero, catS, Value.category, Nat.reduceAdd, Nat.reduceLT, Nat.reduceLeDiff, Nat.le_refl, and_self, and_true, true_and]; done) | (simp only [hK_sI, hN_sI, hK_sL, hN_sL, hK_sR, hN_sR, hK_sA, hN_sA, hK_sLA, hN_sLA]; first | assumption | omega)) only [ex_iadd, ex_isub, ex_imul, ex_iand, ex_ior, ex_ixor, ex_ishl, ex_ishr, ex_iushr, ex_ladd, ex_lsub, ex_lmul, ex_idiv, ex_irem, ex_ldiv, ex_lrem, ex_lshl, ex_lushr, ex_lcmp, ex_i2l, ex_l2i, ex_i2b, ex_iconst, ex_lconst, ex_null, ex_iload, ex_lload, ex_aload, ex_istore, ex_astore, ex_astoreN, ex_lstore, ex_iinc, ex_dup_int, ex_pop_int, ex_dup_ref, ex_pop_ref, ex_dup2l, ex_dup2ri, ex_pop2, ex_goto, ex_jsr, ex_ifnull, ex_ifnullN, ex_ifnn, ex_ifnnN, ex_calls, ex_callv, ex_ireturn, ex_zB, ex_z0, ex_z1, ex_lreturn, ex_vreturn, ex_obj, ex_icmp_eq, ex_icmp_ne, ex_icmp_lt, ex_icmp_ge, ex_icmp_gt, ex_icmp_le, ex_ifc_eq, ex_ifc_ne, ex_ifc_lt, ex_ifc_ge, ex_ifc_gt, ex_ifc_le, lget_cons0, lget_cons, lset1, lclr, isL, List.length_cons, List.length_nil, List.take, List.drop, List.take_zero, List.drop_zero, List.reverse_cons, List.reverse_nil, List.nil_append, List.cons_append, catS, Value.category, tl_some, tl_none, rf_some, rf_none, Int.toNat_natCast, Int.reduceToNat, Nat.reduceAdd, Nat.reduceLT, Nat.reduceLeDiff, Nat.reduceEqDiff, and_true, true_and, and_self, eq_self, reduceIte, false_and, and_false, Bool.false_eq_true, Bool.true_eq_false, or_true, true_or, or_false, false_or, not_true_eq_false, not_false_eq_true, ite_true, ite_false, if_true, if_false, linit, largs, List.replicate, Nat.reduceSub, Nat.sub_self, kim1000000000, kim2, kim1, ki0, ki1, ki2, ki3, ki4, ki5, ki6, ki7, ki8, ki9, ki10, ki12, ki15, ki16, ki20, ki24, ki30, ki32, ki33, ki38, ki40, ki41, ki42, ki43, ki44, ki45, ki46, ki47, ki48, ki50, ki52, ki57, ki58, ki59, ki60, ki61, ki62, ki63, ki91, ki93, ki97, ki99, ki100, ki102, ki108, ki109, ki110, ki111, ki116, ki119, ki120, ki121, ki124, ki128, ki200, ki240, ki255, ki480, ki680, ki999, ki1000, ki7776, ki252645135, ki858993459, ki1431655765, klm1000000000, klm1000000, klm1, kl0, kl1, kl2, kl3, kl4, kl5, kl12, kl60, kl99, kl999, kl1000, kl1000000, kl1000000000, kl4294967295, kl1442695040888963407, kl6364136223846793005, hK_sI, hN_sI, hI_sI, hL_sI, hR_sI, hZ_sI, hC_sI, hS_sI, hK_sL, hN_sL, hI_sL, hL_sL, hR_sL, hZ_sL, hC_sL, hS_sL, hK_sR, hN_sR, hI_sR, hL_sR, hR_sR, hZ_sR, hC_sR, hS_sR, hK_sA, hN_sA, hI_sA, hL_sA, hR_sA, hK_sLA, hN_sLA, hI_sLA, hL_sLA, hR_sLA, up2_at, vu_at, decide_true, decide_false, Bool.false_and, Bool.true_and, Bool.and_true, Bool.and_false, nI_ltN, nI_leN, nI_eqN, nI_eq0, nI_lt0N, nI_le0N, nI_gt0N, nI_le00N, nI_add, nI_mul, bB_0, bB_n, d_le, d_nle, d_lt, d_nlt, d_eq, d_ne, u_k0, u_k1, u_k4, u_k5, u_k7, u_k8, u_k11, u_k14, u_k21, u_k24, u_k33, u_k36, u_k37, u_k41, u_k45, u_k55, u_k66, u_k68, u_k70, u_k72, u_k74, b231_0, hH0, k1, k2, k3, k4, u_gI24, u_gL24, u_pL24, u_pI24, u_rf24_4, u_rf24_5, u_rf24_6, u_rf24_7, u_rf24_8, u_rf24_9, u_k24, u_gI14, u_gL14, u_pL14, u_pI14, u_rf14_4, u_rf14_5, u_rf14_6, u_rf14_7, u_rf14_8, u_rf14_9, u_k14]
  exact key 40 0 (by omega) H4 s4 (fun _ _ => rfl) (fun _ => rfl) (fun i hi => absurd hi (Nat.not_lt_zero _))
set_option maxHeartbeats 2000000 in
theorem ev_diB (f : Fr h) (hQ : ∀ h1, Sm (fun (u j : Nat) => (u == 14 && (j == 0 || j == 1 || j == 2 || j == 3)) || u == 15 || u == 16 || u == 17 || u == 18 || u == 19) h h1 → hL h1 14 0 = hL h 24 0 → (∀ j, 1 ≤ j → j ≤ 3 → hI h1 14 j = hI h 24 j) → (∀ j, j < 200 → hI h1 15 j = hI h 25 j) → (∀ j, j < 200 → hI h1 16 j = hI h 26 j) → (∀ j, j < 40 → hI h1 17 j = hI h 27 j) → (∀ j, j < 240 → hI h1 18 j = hI h 28 j) → (∀ j, j < 40 → hL h1 19 j = hL h 29 j) → Q none h1) : Ev (D + 6) 231 [.ref 14, .ref 24] h Q := by
  obtain ⟨H0, hH0⟩ : ∃ H, sI (sI (sI (sL h 14 0 (hL h 24 0)) 14 1 (hI h 24 1)) 14 2 (hI h 24 2)) 14 3 (hI h 24 3) = H := ⟨_, rfl⟩
  have f0 : Fr H0 := by rw [← hH0]; simp only [Fr_sI, Fr_sL]; exact f
  have s0 : Sm (fun (u j : Nat) => (u == 14 && (j == 0 || j == 1 || j == 2 || j == 3)) || u == 15 || u == 16 || u == 17 || u == 18 || u == 19) h H0 := by rw [← hH0]; exact ((((Sm.rf _ h).wL (a := 14) _ rfl).wI (a := 14) _ rfl).wI (a := 14) _ rfl).wI (a := 14) _ rfl
  have l0 : hL H0 14 0 = hL h 24 0 := by rw [← hH0]; simp only [hK_sI, hN_sI, hI_sI, hL_sI, hR_sI, hZ_sI, hC_sI, hS_sI, hK_sL, hN_sL, hI_sL, hL_sL, hR_sL, hZ_sL, hC_sL, hS_sL, hK_sR, hN_sR, hI_sR, hL_sR, hR_sR, hZ_sR, hC_sR, hS_sR, hK_sA, hN_sA, hI_sA, hL_sA, hR_sA, hK_sLA, hN_sLA, hI_sLA, hL_sLA, hR_sLA, up2_at, vu_at]; simp
  have l1 : ∀ j, 1 ≤ j → j ≤ 3 → hI H0 14 j = hI h 24 j := fun j q1 q2 => by
    rw [← hH0]
    rcases (show j = 1 ∨ j = 2 ∨ j = 3 by omega) with q | q | q <;> subst q <;> simp only [hK_sI, hN_sI, hI_sI, hL_sI, hR_sI, hZ_sI, hC_sI, hS_sI, hK_sL, hN_sL, hI_sL, hL_sL, hR_sL, hZ_sL, hC_sL, hS_sL, hK_sR, hN_sR, hI_sR, hL_sR, hR_sR, hZ_sR, hC_sR, hS_sR, hK_sA, hN_sA, hI_sA, hL_sA, hR_sA, hK_sLA, hN_sLA, hI_sLA, hL_sLA, hR_sLA, up2_at, vu_at] <;> simp
  have k1 := fun Q => @ev_copyAll (D + 2) 25 15 200 H0 Q (by decide) (u_k25 f0) (u_k15 f0) (u_n15 f0) (by decide) (u_n25 f0)
  obtain ⟨H1, hH1⟩ : ∃ H, sA H0 15 (cpF (hI H0 25) (hI H0 15) 0 0 200) = H := ⟨_, rfl⟩
  rw [hH1] at k1
  have f1 : Fr H1 := by rw [← hH1]; simp only [Fr_sA]; exact f0
  have s1 : Sm (fun (u j : Nat) => (u == 14 && (j == 0 || j == 1 || j == 2 || j == 3)) || u == 15 || u == 16 || u == 17 || u == 18 || u == 19) h H1 := by rw [← hH1]; exact s0.wA (a := 15) _ (fun _ => by simp)
  have e1 : ∀ j, j < 200 → hI H1 15 j = hI h 25 j := fun j hj => by
    rw [← hH1, hI_sA, vu_at, if_pos rfl, cp_at hj]
    exact s0.i 25 j rfl
  have o1 : ∀ u j, u ≠ 15 → hI H1 u j = hI H0 u j := fun u j q => by rw [← hH1, hI_sA, vu_at, if_neg q]
  have p1 : ∀ u j, hL H1 u j = hL H0 u j := fun u j => by rw [← hH1]; rfl
  have k2 := fun Q => @ev_copyAll (D + 2) 26 16 200 H1 Q (by decide) (u_k26 f1) (u_k16 f1) (u_n16 f1) (by decide) (u_n26 f1)
  obtain ⟨H2, hH2⟩ : ∃ H, sA H1 16 (cpF (hI H1 26) (hI H1 16) 0 0 200) = H := ⟨_, rfl⟩
  rw [hH2] at k2
  have f2 : Fr H2 := by rw [← hH2]; simp only [Fr_sA]; exact f1
  have s2 : Sm (fun (u j : Nat) => (u == 14 && (j == 0 || j == 1 || j == 2 || j == 3)) || u == 15 || u == 16 || u == 17 || u == 18 || u == 19) h H2 := by rw [← hH2]; exact s1.wA (a := 16) _ (fun _ => by simp)
  have e2 : ∀ j, j < 200 → hI H2 16 j = hI h 26 j := fun j hj => by
    rw [← hH2, hI_sA, vu_at, if_pos rfl, cp_at hj]
    exact s1.i 26 j rfl
  have o2 : ∀ u j, u ≠ 16 → hI H2 u j = hI H1 u j := fun u j q => by rw [← hH2, hI_sA, vu_at, if_neg q]
  have p2 : ∀ u j, hL H2 u j = hL H1 u j := fun u j => by rw [← hH2]; rfl
  have k3 := fun Q => @ev_copyAll (D + 2) 27 17 40 H2 Q (by decide) (u_k27 f2) (u_k17 f2) (u_n17 f2) (by decide) (u_n27 f2)
  obtain ⟨H3, hH3⟩ : ∃ H, sA H2 17 (cpF (hI H2 27) (hI H2 17) 0 0 40) = H := ⟨_, rfl⟩
  rw [hH3] at k3
  have f3 : Fr H3 := by rw [← hH3]; simp only [Fr_sA]; exact f2
  have s3 : Sm (fun (u j : Nat) => (u == 14 && (j == 0 || j == 1 || j == 2 || j == 3)) || u == 15 || u == 16 || u == 17 || u == 18 || u == 19) h H3 := by rw [← hH3]; exact s2.wA (a := 17) _ (fun _ => by simp)
  have e3 : ∀ j, j < 40 → hI H3 17 j = hI h 27 j := fun j hj => by
    rw [← hH3, hI_sA, vu_at, if_pos rfl, cp_at hj]
    exact s2.i 27 j rfl
  have o3 : ∀ u j, u ≠ 17 → hI H3 u j = hI H2 u j := fun u j q => by rw [← hH3, hI_sA, vu_at, if_neg q]
  have p3 : ∀ u j, hL H3 u j = hL H2 u j := fun u j => by rw [← hH3]; rfl
  have k4 := fun Q => @ev_copyAll (D + 2) 28 18 240 H3 Q (by decide) (u_k28 f3) (u_k18 f3) (u_n18 f3) (by decide) (u_n28 f3)
  obtain ⟨H4, hH4⟩ : ∃ H, sA H3 18 (cpF (hI H3 28) (hI H3 18) 0 0 240) = H := ⟨_, rfl⟩
  rw [hH4] at k4
  have f4 : Fr H4 := by rw [← hH4]; simp only [Fr_sA]; exact f3
  have s4 : Sm (fun (u j : Nat) => (u == 14 && (j == 0 || j == 1 || j == 2 || j == 3)) || u == 15 || u == 16 || u == 17 || u == 18 || u == 19) h H4 := by rw [← hH4]; exact s3.wA (a := 18) _ (fun _ => by simp)
  have e4 : ∀ j, j < 240 → hI H4 18 j = hI h 28 j := fun j hj => by
    rw [← hH4, hI_sA, vu_at, if_pos rfl, cp_at hj]
    exact s3.i 28 j rfl
  have o4 : ∀ u j, u ≠ 18 → hI H4 u j = hI H3 u j := fun u j q => by rw [← hH4, hI_sA, vu_at, if_neg q]
  have p4 : ∀ u j, hL H4 u j = hL H3 u j := fun u j => by rw [← hH4]; rfl
  have key : ∀ r j, j + r = 40 → ∀ h1, Sm (fun (u j : Nat) => (u == 14 && (j == 0 || j == 1 || j == 2 || j == 3)) || u == 15 || u == 16 || u == 17 || u == 18 || u == 19) h h1 → (∀ u i, hI h1 u i = hI H4 u i) → (∀ i, hL h1 14 i = hL H4 14 i) → (∀ i, i < j → hL h1 19 i = hL h 29 i) → Ex none (D + 5) 231 (blk 231 1) [some (.ref 14), some (.ref 24), some (.int (nI j))] [] h1 Q := by
    intro r
    induction r with
    | zero =>
      intro j hj h1 s1 a1 a2 a3
      have hj : j = 40 := by omega
      subst hj
      have g1 : Fr h1 := s1.fr f (by decide)
      rw [b231_1]
      simp (disch := first | (simp only [Fr_sI, Fr_sL, Fr_sA, Fr_sLA]; assumption) | assumption | decide | omega | (simp only [List.length_cons, List.length_nil, List.drop_succ_cons, List.drop_zero, catS, Value.category, Nat.reduceAdd, Nat.reduceLT, Nat.reduceLeDiff, Nat.le_refl, and_self, and_true, true_and]; done) | (simp only [hK_sI, hN_sI, hK_sL, hN_sL, hK_sR, hN_sR, hK_sA, hN_sA, hK_sLA, hN_sLA]; first | assumption | omega)) only [ex_iadd, ex_isub, ex_imul, ex_iand, ex_ior, ex_ixor, ex_ishl, ex_ishr, ex_iushr, ex_ladd, ex_lsub, ex_lmul, ex_idiv, ex_irem, ex_ldiv, ex_lrem, ex_lshl, ex_lushr, ex_lcmp, ex_i2l, ex_l2i, ex_i2b, ex_iconst, ex_lconst, ex_null, ex_iload, ex_lload, ex_aload, ex_istore, ex_astore, ex_astoreN, ex_lstore, ex_iinc, ex_dup_int, ex_pop_int, ex_dup_ref, ex_pop_ref, ex_dup2l, ex_dup2ri, ex_pop2, ex_goto, ex_jsr, ex_ifnull, ex_ifnullN, ex_ifnn, ex_ifnnN, ex_calls, ex_callv, ex_ireturn, ex_zB, ex_z0, ex_z1, ex_lreturn, ex_vreturn, ex_obj, ex_icmp_eq, ex_icmp_ne, ex_icmp_lt, ex_icmp_ge, ex_icmp_gt, ex_icmp_le, ex_ifc_eq, ex_ifc_ne, ex_ifc_lt, ex_ifc_ge, ex_ifc_gt, ex_ifc_le, lget_cons0, lget_cons, lset1, lclr, isL, List.length_cons, List.length_nil, List.take, List.drop, List.take_zero, List.drop_zero, List.reverse_cons, List.reverse_nil, List.nil_append, List.cons_append, catS, Value.category, tl_some, tl_none, rf_some, rf_none, Int.toNat_natCast, Int.reduceToNat, Nat.reduceAdd, Nat.reduceLT, Nat.reduceLeDiff, Nat.reduceEqDiff, and_true, true_and, and_self, eq_self, reduceIte, false_and, and_false, Bool.false_eq_true, Bool.true_eq_false, or_true, true_or, or_false, false_or, not_true_eq_false, not_false_eq_true, ite_true, ite_false, if_true, if_false, linit, largs, List.replicate, Nat.reduceSub, Nat.sub_self, kim1000000000, kim2, kim1, ki0, ki1, ki2, ki3, ki4, ki5, ki6, ki7, ki8, ki9, ki10, ki12, ki15, ki16, ki20, ki24, ki30, ki32, ki33, ki38, ki40, ki41, ki42, ki43, ki44, ki45, ki46, ki47, ki48, ki50, ki52, ki57, ki58, ki59, ki60, ki61, ki62, ki63, ki91, ki93, ki97, ki99, ki100, ki102, ki108, ki109, ki110, ki111, ki116, ki119, ki120, ki121, ki124, ki128, ki200, ki240, ki255, ki480, ki680, ki999, ki1000, ki7776, ki252645135, ki858993459, ki1431655765, klm1000000000, klm1000000, klm1, kl0, kl1, kl2, kl3, kl4, kl5, kl12, kl60, kl99, kl999, kl1000, kl1000000, kl1000000000, kl4294967295, kl1442695040888963407, kl6364136223846793005, hK_sI, hN_sI, hI_sI, hL_sI, hR_sI, hZ_sI, hC_sI, hS_sI, hK_sL, hN_sL, hI_sL, hL_sL, hR_sL, hZ_sL, hC_sL, hS_sL, hK_sR, hN_sR, hI_sR, hL_sR, hR_sR, hZ_sR, hC_sR, hS_sR, hK_sA, hN_sA, hI_sA, hL_sA, hR_sA, hK_sLA, hN_sLA, hI_sLA, hL_sLA, hR_sLA, up2_at, vu_at, decide_true, decide_false, Bool.false_and, Bool.true_and, Bool.and_true, Bool.and_false, nI_ltN, nI_leN, nI_eqN, nI_eq0, nI_lt0N, nI_le0N, nI_gt0N, nI_le00N, nI_add, nI_mul, bB_0, bB_n, d_le, d_nle, d_lt, d_nlt, d_eq, d_ne, u_k0, u_k1, u_k4, u_k5, u_k7, u_k8, u_k11, u_k14, u_k21, u_k24, u_k33, u_k36, u_k37, u_k41, u_k45, u_k55, u_k66, u_k68, u_k70, u_k72, u_k74, b231_2, u_gI14, u_gL14, u_pL14, u_pI14, u_rf14_4, u_rf14_5, u_rf14_6, u_rf14_7, u_rf14_8, u_rf14_9, u_k14, u_k19, u_n19, u_ld19, u_st19, u_at19, u_pt19, u_rs19, u_al19]
      refine hQ h1 s1 ?_ (fun j q1 q2 => ?_) (fun j hj => ?_) (fun j hj => ?_) (fun j hj => ?_) (fun j hj => ?_) a3
      · rw [a2, p4, p3, p2, p1]; exact l0
      · rw [a1, o4 _ _ (by decide), o3 _ _ (by decide), o2 _ _ (by decide), o1 _ _ (by decide)]; exact l1 j q1 q2
      · rw [a1, o4 _ _ (by decide), o3 _ _ (by decide), o2 _ _ (by decide)]; exact e1 j hj
      · rw [a1, o4 _ _ (by decide), o3 _ _ (by decide)]; exact e2 j hj
      · rw [a1, o4 _ _ (by decide)]; exact e3 j hj
      · rw [a1]; exact e4 j hj
    | succ r ih =>
      intro j hj h1 s1 a1 a2 a3
      have g1 : Fr h1 := s1.fr f (by decide)
      have v := s1.l 29 j rfl
      rw [b231_1]
      simp (disch := first | (simp only [Fr_sI, Fr_sL, Fr_sA, Fr_sLA]; assumption) | assumption | decide | omega | (simp only [List.length_cons, List.length_nil, List.drop_succ_cons, List.drop_zero, catS, Value.category, Nat.reduceAdd, Nat.reduceLT, Nat.reduceLeDiff, Nat.le_refl, and_self, and_true, true_and]; done) | (simp only [hK_sI, hN_sI, hK_sL, hN_sL, hK_sR, hN_sR, hK_sA, hN_sA, hK_sLA, hN_sLA]; first | assumption | omega)) only [ex_iadd, ex_isub, ex_imul, ex_iand, ex_ior, ex_ixor, ex_ishl, ex_ishr, ex_iushr, ex_ladd, ex_lsub, ex_lmul, ex_idiv, ex_irem, ex_ldiv, ex_lrem, ex_lshl, ex_lushr, ex_lcmp, ex_i2l, ex_l2i, ex_i2b, ex_iconst, ex_lconst, ex_null, ex_iload, ex_lload, ex_aload, ex_istore, ex_astore, ex_astoreN, ex_lstore, ex_iinc, ex_dup_int, ex_pop_int, ex_dup_ref, ex_pop_ref, ex_dup2l, ex_dup2ri, ex_pop2, ex_goto, ex_jsr, ex_ifnull, ex_ifnullN, ex_ifnn, ex_ifnnN, ex_calls, ex_callv, ex_ireturn, ex_zB, ex_z0, ex_z1, ex_lreturn, ex_vreturn, ex_obj, ex_icmp_eq, ex_icmp_ne, ex_icmp_lt, ex_icmp_ge, ex_icmp_gt, ex_icmp_le, ex_ifc_eq, ex_ifc_ne, ex_ifc_lt, ex_ifc_ge, ex_ifc_gt, ex_ifc_le, lget_cons0, lget_cons, lset1, lclr, isL, List.length_cons, List.length_nil, List.take, List.drop, List.take_zero, List.drop_zero, List.reverse_cons, List.reverse_nil, List.nil_append, List.cons_append, catS, Value.category, tl_some, tl_none, rf_some, rf_none, Int.toNat_natCast, Int.reduceToNat, Nat.reduceAdd, Nat.reduceLT, Nat.reduceLeDiff, Nat.reduceEqDiff, and_true, true_and, and_self, eq_self, reduceIte, false_and, and_false, Bool.false_eq_true, Bool.true_eq_false, or_true, true_or, or_false, false_or, not_true_eq_false, not_false_eq_true, ite_true, ite_false, if_true, if_false, linit, largs, List.replicate, Nat.reduceSub, Nat.sub_self, kim1000000000, kim2, kim1, ki0, ki1, ki2, ki3, ki4, ki5, ki6, ki7, ki8, ki9, ki10, ki12, ki15, ki16, ki20, ki24, ki30, ki32, ki33, ki38, ki40, ki41, ki42, ki43, ki44, ki45, ki46, ki47, ki48, ki50, ki52, ki57, ki58, ki59, ki60, ki61, ki62, ki63, ki91, ki93, ki97, ki99, ki100, ki102, ki108, ki109, ki110, ki111, ki116, ki119, ki120, ki121, ki124, ki128, ki200, ki240, ki255, ki480, ki680, ki999, ki1000, ki7776, ki252645135, ki858993459, ki1431655765, klm1000000000, klm1000000, klm1, kl0, kl1, kl2, kl3, kl4, kl5, kl12, kl60, kl99, kl999, kl1000, kl1000000, kl1000000000, kl4294967295, kl1442695040888963407, kl6364136223846793005, hK_sI, hN_sI, hI_sI, hL_sI, hR_sI, hZ_sI, hC_sI, hS_sI, hK_sL, hN_sL, hI_sL, hL_sL, hR_sL, hZ_sL, hC_sL, hS_sL, hK_sR, hN_sR, hI_sR, hL_sR, hR_sR, hZ_sR, hC_sR, hS_sR, hK_sA, hN_sA, hI_sA, hL_sA, hR_sA, hK_sLA, hN_sLA, hI_sLA, hL_sLA, hR_sLA, up2_at, vu_at, decide_true, decide_false, Bool.false_and, Bool.true_and, Bool.and_true, Bool.and_false, nI_ltN, nI_leN, nI_eqN, nI_eq0, nI_lt0N, nI_le0N, nI_gt0N, nI_le00N, nI_add, nI_mul, bB_0, bB_n, d_le, d_nle, d_lt, d_nlt, d_eq, d_ne, u_k0, u_k1, u_k4, u_k5, u_k7, u_k8, u_k11, u_k14, u_k21, u_k24, u_k33, u_k36, u_k37, u_k41, u_k45, u_k55, u_k66, u_k68, u_k70, u_k72, u_k74, v, u_gI14, u_gL14, u_pL14, u_pI14, u_rf14_4, u_rf14_5, u_rf14_6, u_rf14_7, u_rf14_8, u_rf14_9, u_k14, u_gI24, u_gL24, u_pL24, u_pI24, u_rf24_4, u_rf24_5, u_rf24_6, u_rf24_7, u_rf24_8, u_rf24_9, u_k24, u_k19, u_n19, u_ld19, u_st19, u_at19, u_pt19, u_rs19, u_al19, u_k29, u_n29, u_ld29, u_st29, u_at29, u_pt29, u_rs29, u_al29]
      refine ih (j + 1) (by omega) _ (s1.wL (a := 19) _ rfl) a1 a2 (fun i hi => ?_)
      have e : ∀ (H : Hp) w, hL (sL H 19 j w) 19 i = if i = j then w else hL H 19 i := by
        intro H w
        simp only [hK_sI, hN_sI, hI_sI, hL_sI, hR_sI, hZ_sI, hC_sI, hS_sI, hK_sL, hN_sL, hI_sL, hL_sL, hR_sL, hZ_sL, hC_sL, hS_sL, hK_sR, hN_sR, hI_sR, hL_sR, hR_sR, hZ_sR, hC_sR, hS_sR, hK_sA, hN_sA, hI_sA, hL_sA, hR_sA, hK_sLA, hN_sLA, hI_sLA, hL_sLA, hR_sLA, up2_at, vu_at]
        by_cases q : i = j
        · simp [q]
        · simp [q]
      rw [e]
      by_cases q : i = j
      · rw [if_pos q, q]
      · rw [if_neg q]
        exact a3 i (by omega)
  rw [Ev_body 3 rfl rfl]
  simp (disch := first | (simp only [Fr_sI, Fr_sL, Fr_sA, Fr_sLA]; assumption) | assumption | decide | omega | (simp only [List.length_cons, List.length_nil, List.drop_succ_cons, List.drop_zero, catS, Value.category, Nat.reduceAdd, Nat.reduceLT, Nat.reduceLeDiff, Nat.le_refl, and_self, and_true, true_and]; done) | (simp only [hK_sI, hN_sI, hK_sL, hN_sL, hK_sR, hN_sR, hK_sA, hN_sA, hK_sLA, hN_sLA]; first | assumption | omega)) only [ex_iadd, ex_isub, ex_imul, ex_iand, ex_ior, ex_ixor, ex_ishl, ex_ishr, ex_iushr, ex_ladd, ex_lsub, ex_lmul, ex_idiv, ex_irem, ex_ldiv, ex_lrem, ex_lshl, ex_lushr, ex_lcmp, ex_i2l, ex_l2i, ex_i2b, ex_iconst, ex_lconst, ex_null, ex_iload, ex_lload, ex_aload, ex_istore, ex_astore, ex_astoreN, ex_lstore, ex_iinc, ex_dup_int, ex_pop_int, ex_dup_ref, ex_pop_ref, ex_dup2l, ex_dup2ri, ex_pop2, ex_goto, ex_jsr, ex_ifnull, ex_ifnullN, ex_ifnn, ex_ifnnN, ex_calls, ex_callv, ex_ireturn, ex_zB, ex_z0, ex_z1, ex_lreturn, ex_vreturn, ex_obj, ex_icmp_eq, ex_icmp_ne, ex_icmp_lt, ex_icmp_ge, ex_icmp_gt, ex_icmp_le, ex_ifc_eq, ex_ifc_ne, ex_ifc_lt, ex_ifc_ge, ex_ifc_gt, ex_ifc_le, lget_cons0, lget_cons, lset1, lclr, isL, List.length_cons, List.length_nil, List.take, List.drop, List.take_zero, List.drop_zero, List.reverse_cons, List.reverse_nil, List.nil_append, List.cons_append, catS, Value.category, tl_some, tl_none, rf_some, rf_none, Int.toNat_natCast, Int.reduceToNat, Nat.reduceAdd, Nat.reduceLT, Nat.reduceLeDiff, Nat.reduceEqDiff, and_true, true_and, and_self, eq_self, reduceIte, false_and, and_false, Bool.false_eq_true, Bool.true_eq_false, or_true, true_or, or_false, false_or, not_true_eq_false, not_false_eq_true, ite_true, ite_false, if_true, if_false, linit, largs, List.replicate, Nat.reduceSub, Nat.sub_self, kim1000000000, kim2, kim1, ki0, ki1, ki2, ki3, ki4, ki5, ki6, ki7, ki8, ki9, ki10, ki12, ki15, ki16, ki20, ki24, ki30, ki32, ki33, ki38, ki40, ki41, ki42, ki43, ki44, ki45, ki46, ki47, ki48, ki50, ki52, ki57, ki58, ki59, ki60, ki61, ki62, ki63, ki91, ki93, ki97, ki99, ki100, ki102, ki108, ki109, ki110, ki111, ki116, ki119, ki120, ki121, ki124, ki128, ki200, ki240, ki255, ki480, ki680, ki999, ki1000, ki7776, ki252645135, ki858993459, ki1431655765, klm1000000000, klm1000000, klm1, kl0, kl1, kl2, kl3, kl4, kl5, kl12, kl60, kl99, kl999, kl1000, kl1000000, kl1000000000, kl4294967295, kl1442695040888963407, kl6364136223846793005, hK_sI, hN_sI, hI_sI, hL_sI, hR_sI, hZ_sI, hC_sI, hS_sI, hK_sL, hN_sL, hI_sL, hL_sL, hR_sL, hZ_sL, hC_sL, hS_sL, hK_sR, hN_sR, hI_sR, hL_sR, hR_sR, hZ_sR, hC_sR, hS_sR, hK_sA, hN_sA, hI_sA, hL_sA, hR_sA, hK_sLA, hN_sLA, hI_sLA, hL_sLA, hR_sLA, up2_at, vu_at, decide_true, decide_false, Bool.false_and, Bool.true_and, Bool.and_true, Bool.and_false, nI_ltN, nI_leN, nI_eqN, nI_eq0, nI_lt0N, nI_le0N, nI_gt0N, nI_le00N, nI_add, nI_mul, bB_0, bB_n, d_le, d_nle, d_lt, d_nlt, d_eq, d_ne, u_k0, u_k1, u_k4, u_k5, u_k7, u_k8, u_k11, u_k14, u_k21, u_k24, u_k33, u_k36, u_k37, u_k41, u_k45, u_k55, u_k66, u_k68, u_k70, u_k72, u_k74, b231_0, hH0, k1, k2, k3, k4, u_gI14, u_gL14, u_pL14, u_pI14, u_rf14_4, u_rf14_5, u_rf14_6, u_rf14_7, u_rf14_8, u_rf14_9, u_k14, u_gI24, u_gL24, u_pL24, u_pI24, u_rf24_4, u_rf24_5, u_rf24_6, u_rf24_7, u_rf24_8, u_rf24_9, u_k24]
  exact key 40 0 (by omega) H4 s4 (fun _ _ => rfl) (fun _ => rfl) (fun i hi => absurd hi (Nat.not_lt_zero _))
end
