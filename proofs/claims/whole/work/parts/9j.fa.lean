/-! fault: both sides. -/
section
variable {tp : Nat → Nat} {L n : Nat}
theorem bnd_2 {r : PRs} {f : Nat → VF → PRs} (a : r.1 ≤ 2) (b : ∀ q w, (f q w).1 ≤ 2) : (bnd r f).1 ≤ 2 := by
  by_cases z : r.1 = 0
  · rw [bnd_0 z]; exact b _ _
  · rw [bnd_n z]; exact a
theorem clo_2 {c q : Nat} {w : VF} : (clo tp L c q w).1 ≤ 2 := by
  unfold clo
  split
  · show (0 : Nat) ≤ 2; decide
  · show (1 : Nat) ≤ 2; decide
theorem pBad_2 {q : Nat} : (pBad q).1 ≤ 2 := by show (1 : Nat) ≤ 2; decide
theorem pOk_2 {q : Nat} {w : VF} : (pOk q w).1 ≤ 2 := by show (0 : Nat) ≤ 2; decide
theorem P_2s : ∀ n k d v p, (P tp L n k d v p).1 ≤ 2 := by
  intro n
  induction n with
  | zero => intro k d v p; exact Nat.le_refl 2
  | succ n ih =>
    intro k d v p
    match k with
    | 0 =>
      rw [P_0]
      repeat' split
      · unfold nmQ
        split
        · exact pBad_2
        · exact pOk_2
      · exact pBad_2
      · exact bnd_2 (ih _ _ _ _) (fun _ _ => clo_2)
      · exact pOk_2
      · exact pBad_2
    | 1 => exact bnd_2 (ih _ _ _ _) (fun _ _ => ih _ _ _ _)
    | 2 =>
      rw [P_2]
      repeat' split
      · exact bnd_2 (ih _ _ _ _) (fun _ _ => ih _ _ _ _)
      · exact bnd_2 (ih _ _ _ _) (fun _ _ => ih _ _ _ _)
      · exact pOk_2
    | 3 => exact bnd_2 (ih _ _ _ _) (fun _ _ => ih _ _ _ _)
    | 4 =>
      rw [P_4]
      repeat' split
      · exact bnd_2 (ih _ _ _ _) (fun _ _ => ih _ _ _ _)
      · exact bnd_2 (ih _ _ _ _) (fun _ _ => ih _ _ _ _)
      · exact pOk_2
    | 5 =>
      rw [P_5]
      split
      · exact bnd_2 (ih _ _ _ _) (fun _ _ => pOk_2)
      · exact pBad_2
    | 6 =>
      rw [P_6]
      repeat' split
      · exact pBad_2
      · exact bnd_2 (ih _ _ _ _) (fun _ _ => pOk_2)
      · exact pBad_2
      · exact bnd_2 (ih _ _ _ _) (fun _ _ => clo_2)
      · exact bnd_2 (ih _ _ _ _) (fun _ _ => ih _ _ _ _)
    | 7 =>
      rw [P_7]
      split
      · exact bnd_2 (ih _ _ _ _) (fun _ _ => ih _ _ _ _)
      · exact pOk_2
    | 8 => exact bnd_2 (ih _ _ _ _) (fun _ _ => ih _ _ _ _)
    | 9 =>
      rw [P_9]
      split
      · exact bnd_2 (ih _ _ _ _) (fun _ _ => ih _ _ _ _)
      · exact pOk_2
    | 10 => exact bnd_2 (ih _ _ _ _) (fun _ _ => ih _ _ _ _)
    | k + 11 => exact Nat.le_refl 2
theorem aft_2 {r : PRs} (a : r.1 ≤ 2) : (aft tp L n r).1 ≤ 2 := by
  unfold aft
  repeat' split
  · exact P_2s _ _ _ _ _
  · show (1 : Nat) ≤ 2; decide
  · exact a
theorem cnd_2 {v : VF} {p : Nat} : (cnd tp L n v p).1 ≤ 2 := bnd_2 (bnd_2 (P_2s _ _ _ _ _) (fun _ _ => P_2s _ _ _ _ _)) (fun _ _ => P_2s _ _ _ _ _)
theorem clP_2 {p : Nat} : (clP tp L n p).1 ≤ 2 := by
  unfold clP clS
  repeat' split
  · exact aft_2 (P_2s _ _ _ _ _)
  · exact aft_2 cnd_2
  · show (0 : Nat) ≤ 2; decide
  · exact P_2s _ _ _ _ _
  · show (1 : Nat) ≤ 2; decide
  · show (1 : Nat) ≤ 2; decide
theorem ruF_2 : ∀ k dc wo p, (ruF tp L n k dc wo p).1 ≤ 2
  | 0, _, _, _ => Nat.le_refl 2
  | k + 1, dc, wo, p => by
    rw [ruF]
    repeat' split
    · exact ruF_2 k _ _ _
    · show (0 : Nat) ≤ 2; decide
    · show (1 : Nat) ≤ 2; decide
    · exact clP_2
theorem ruP_01 (h : L ≤ 120) : (ruP tp L).1 = 0 ∨ (ruP tp L).1 = 1 := by
  have a := ruF_2 (tp := tp) (L := L) (n := 800) 130 zV zV 0
  have b := ruF_good (tp := tp) (L := L) (n := 800) (by omega) 130 zV zV 0 (Nat.zero_le _) (by omega)
  unfold ruP
  omega
theorem lwF_01 : ∀ r k c p, p ≤ L → (∀ i, okc (c i)) → ((lwF tp L r k c p).1 = 0 ∨ (lwF tp L r k c p).1 = 1) ∧ (lwF tp L r k c p).2.1 ≤ L ∧ ∀ i, okc ((lwF tp L r k c p).2.2 i)
  | 0, k, c, p, hp, hc => by
    have s2 := sk_L (tp := tp) hp
    rw [lwF]
    split
    · exact ⟨Or.inl rfl, s2, hc⟩
    · exact ⟨Or.inr rfl, s2, hc⟩
  | r + 1, k, c, p, hp, hc => by
    have key : ∀ p, p ≤ L → ((lwC k c (lcP tp L p) (lwF tp L r (k + 1))).1 = 0 ∨ (lwC k c (lcP tp L p) (lwF tp L r (k + 1))).1 = 1) ∧ (lwC k c (lcP tp L p) (lwF tp L r (k + 1))).2.1 ≤ L ∧ ∀ i, okc ((lwC k c (lcP tp L p) (lwF tp L r (k + 1))).2.2 i) := by
      intro p hp
      obtain ⟨g1, g2, g3⟩ := lcP_good (tp := tp) hp
      unfold lwC
      split
      · refine lwF_01 r (k + 1) _ _ g2 (fun i => ?_)
        by_cases q : i = k
        · rw [if_pos q]; exact g3
        · rw [if_neg q]; exact hc i
      · exact ⟨Or.inr rfl, g2, hc⟩
    rw [lwF]
    split
    · exact key p hp
    · split
      · have := pq_lt (tp := tp) (L := L) (p := p) (by omega)
        exact key _ (by omega)
      · exact ⟨Or.inr rfl, sk_L hp, hc⟩
theorem lwP_01 : ((lwP tp L).1 = 0 ∨ (lwP tp L).1 = 1) ∧ (lwP tp L).2.1 ≤ L ∧ ∀ i, okc ((lwP tp L).2.2 i) := lwF_01 6 0 _ 0 (Nat.zero_le _) (fun i => Or.inr ⟨by decide, Or.inl rfl⟩)
end
def fltL (tp : Nat → Nat) (L : Nat) : Int32 := if (lwP tp L).1 = 0 then -nI 1 else nI (lwP tp L).2.1
def fltR (tp : Nat → Nat) (L : Nat) : Int32 := if (ruP tp L).1 = 0 then -nI 1 else nI (ruP tp L).2.1
def sFc (u j : Nat) : Bool := u == 9 || u == 6 || (u == 5 && (j == 0 || j == 1 || j == 2)) || (u == 8 && (j == 0 || j == 1 || j == 2)) || (u == 7 && (j == 2 || j == 3 || j == 4 || j == 5))
def sFm (u j : Nat) : Bool := u == 80 || (u == 74 && (j == 0 || j == 5 || j == 8 || j == 9 || j == 10 || j == 11 || j == 12 || j == 13 || j == 14 || j == 17))
def ltM (h : Hp) (i : Nat) : Int32 := if i = 0 then hI h 78 108 else if i = 1 then hI h 78 100 else if i = 2 then hI h 78 109 else if i = 3 then hI h 78 110 else if i = 4 then hI h 78 119 else hI h 78 116
theorem ltM_lix {h : Hp} {c : Nat} (hc : lix c < 6) : hI h 78 c = ltM h (lix c) := by
  by_cases q0 : c = 108
  · subst q0; rfl
  by_cases q1 : c = 100
  · subst q1; rfl
  by_cases q2 : c = 109
  · subst q2; rfl
  by_cases q3 : c = 110
  · subst q3; rfl
  by_cases q4 : c = 119
  · subst q4; rfl
  by_cases q5 : c = 116
  · subst q5; rfl
  unfold lix at hc
  rw [if_neg q0, if_neg q1, if_neg q2, if_neg q3, if_neg q4, if_neg q5] at hc
  omega
section
variable {D L : Nat} {tp : Nat → Nat} {h : Hp} {Q : Option Value → Hp → Prop}
theorem c_faultL (f : Fr h) (xt : XT h 1 2 L tp) (e74 : hI h 7 4 = nI 0) (hQ : ∀ h1, Sm sFc h h1 → hI h1 7 4 = nI 0 → ((lwP tp L).1 = 0 → ∀ i, i < 6 → hI h1 6 i = nI ((lwP tp L).2.2 i)) → Q (some (.int (fltL tp L))) h1) : Ev (D + 6) 242 [.ref 4, .ref 1] h Q := by
  have m : ∀ u j, sLw u j = true → sFc u j = true := fun u j => by simp only [sLw, sFc, Bool.or_eq_true, Bool.and_eq_true, beq_iff_eq]; omega
  refine lw_read f xt (fun z h1 w ha => ?_) (fun z h1 w => ?_)
  · have k := hQ h1 (w.mn m) ((w.i 7 4 rfl).trans e74) (fun _ => ha)
    unfold fltL at k
    rw [if_pos z] at k
    exact k
  · have k := hQ h1 (w.mn m) ((w.i 7 4 rfl).trans e74) (fun z2 => by omega)
    unfold fltL at k
    rw [if_neg (by omega)] at k
    exact k
theorem c_faultR (f : Fr h) (xt : XT h 1 2 L tp) (e74 : hI h 7 4 = nI 0) (hk : okl (fun i => hI h 10 i)) (hQ : ∀ h1, Sm sFc h h1 → hI h1 7 4 = nI 0 → ((ruP tp L).1 = 1 → (ruP tp L).2.1 ≤ L) → Q (some (.int (fltR tp L))) h1) : Ev (D + 815) 245 [.ref 7, .ref 1, .ref 10] h Q := by
  have m : ∀ u j, sRd u j = true → sFc u j = true := fun u j => by simp only [sRd, sFc, Bool.or_eq_true, Bool.and_eq_true, beq_iff_eq]; omega
  refine c_read f xt (fun _ _ => rfl) hk (fun z h1 w v1 v2 => ?_) e74 (fun z zl h1 w v1 => ?_)
  · have k := hQ h1 (w.mn m) v1 (fun y => by omega)
    unfold fltR at k
    rw [if_pos z] at k
    exact k
  · have k := hQ h1 (w.mn m) v1 (fun _ => zl)
    unfold fltR at k
    rw [if_neg (by omega)] at k
    exact k
theorem c_fault {x : Int32} (f : Fr h) (xt : XT h 1 2 L tp) (e74 : hI h 7 4 = nI 0) (hk : okl (fun i => hI h 10 i)) (hQ : ∀ h1, Sm sFc h h1 → hI h1 7 4 = nI 0 → Q (some (.int (if x = nI 0 then fltL tp L else if x = nI 1 then fltR tp L else -nI 2))) h1) : Ev (D + 820) 3 [.ref 0, .int x] h Q := by
  rw [Ev_body 2 rfl rfl]
  by_cases q0 : x = nI 0
  · subst q0
    rw [if_pos rfl] at hQ
    simp (disch := first | (simp only [Fr_sI, Fr_sL, Fr_sA, Fr_sLA]; assumption) | assumption | decide | omega | (simp only [List.length_cons, List.length_nil, List.drop_succ_cons, List.drop_zero, catS, Value.category, Nat.reduceAdd, Nat.reduceLT, Nat.reduceLeDiff, Nat.le_refl, and_self, and_true, true_and]; done) | (simp only [hK_sI, hN_sI, hK_sL, hN_sL, hK_sR, hN_sR, hK_sA, hN_sA, hK_sLA, hN_sLA]; first | assumption | omega)) only [ex_iadd, ex_isub, ex_imul, ex_iand, ex_ior, ex_ixor, ex_ishl, ex_ishr, ex_iushr, ex_ladd, ex_lsub, ex_lmul, ex_idiv, ex_irem, ex_ldiv, ex_lrem, ex_lshl, ex_lushr, ex_lcmp, ex_i2l, ex_l2i, ex_i2b, ex_iconst, ex_lconst, ex_null, ex_iload, ex_lload, ex_aload, ex_istore, ex_astore, ex_astoreN, ex_lstore, ex_iinc, ex_dup_int, ex_pop_int, ex_dup_ref, ex_pop_ref, ex_dup2l, ex_dup2ri, ex_pop2, ex_goto, ex_jsr, ex_ifnull, ex_ifnullN, ex_ifnn, ex_ifnnN, ex_calls, ex_callv, ex_ireturn, ex_zB, ex_z0, ex_z1, ex_lreturn, ex_vreturn, ex_obj, ex_icmp_eq, ex_icmp_ne, ex_icmp_lt, ex_icmp_ge, ex_icmp_gt, ex_icmp_le, ex_ifc_eq, ex_ifc_ne, ex_ifc_lt, ex_ifc_ge, ex_ifc_gt, ex_ifc_le, lget_cons0, lget_cons, lset1, lclr, isL, List.length_cons, List.length_nil, List.take, List.drop, List.take_zero, List.drop_zero, List.reverse_cons, List.reverse_nil, List.nil_append, List.cons_append, catS, Value.category, tl_some, tl_none, rf_some, rf_none, Int.toNat_natCast, Int.reduceToNat, Nat.reduceAdd, Nat.reduceLT, Nat.reduceLeDiff, Nat.reduceEqDiff, and_true, true_and, and_self, eq_self, reduceIte, false_and, and_false, Bool.false_eq_true, Bool.true_eq_false, or_true, true_or, or_false, false_or, not_true_eq_false, not_false_eq_true, ite_true, ite_false, if_true, if_false, linit, largs, List.replicate, Nat.reduceSub, Nat.sub_self, kim1000000000, kim2, kim1, ki0, ki1, ki2, ki3, ki4, ki5, ki6, ki7, ki8, ki9, ki10, ki12, ki15, ki16, ki20, ki24, ki30, ki32, ki33, ki38, ki40, ki41, ki42, ki43, ki44, ki45, ki46, ki47, ki48, ki50, ki52, ki57, ki58, ki59, ki60, ki61, ki62, ki63, ki91, ki93, ki97, ki99, ki100, ki102, ki108, ki109, ki110, ki111, ki116, ki119, ki120, ki121, ki124, ki128, ki200, ki240, ki255, ki480, ki680, ki999, ki1000, ki7776, ki252645135, ki858993459, ki1431655765, klm1000000000, klm1000000, klm1, kl0, kl1, kl2, kl3, kl4, kl5, kl12, kl60, kl99, kl999, kl1000, kl1000000, kl1000000000, kl4294967295, kl1442695040888963407, kl6364136223846793005, hK_sI, hN_sI, hI_sI, hL_sI, hR_sI, hZ_sI, hC_sI, hS_sI, hK_sL, hN_sL, hI_sL, hL_sL, hR_sL, hZ_sL, hC_sL, hS_sL, hK_sR, hN_sR, hI_sR, hL_sR, hR_sR, hZ_sR, hC_sR, hS_sR, hK_sA, hN_sA, hI_sA, hL_sA, hR_sA, hK_sLA, hN_sLA, hI_sLA, hL_sLA, hR_sLA, up2_at, vu_at, decide_true, decide_false, Bool.false_and, Bool.true_and, Bool.and_true, Bool.and_false, nI_ltN, nI_leN, nI_eqN, nI_eq0, nI_lt0N, nI_le0N, nI_gt0N, nI_le00N, nI_add, nI_mul, bB_0, bB_n, d_le, d_nle, d_lt, d_nlt, d_eq, d_ne, u_k0, u_k1, u_k4, u_k5, u_k7, u_k8, u_k11, u_k14, u_k21, u_k24, u_k33, u_k36, u_k37, u_k41, u_k45, u_k55, u_k66, u_k68, u_k70, u_k72, u_k74, b3_0, u_gI0, u_pI0, u_pZa0, u_pZb0, u_pZc0, u_rf0_0, u_rf0_1, u_rf0_3, u_rf0_4, u_rf0_5, u_rf0_6, u_rf0_7, u_rf0_8, u_rf0_9, u_rf0_11, u_rf0_12, u_rf0_13, u_rf0_14, u_rf0_15, u_k0]
    refine c_faultL (D := D + 813) f xt e74 (fun h1 w a1 _ => ?_)
    simp (disch := first | (simp only [Fr_sI, Fr_sL, Fr_sA, Fr_sLA]; assumption) | assumption | decide | omega | (simp only [List.length_cons, List.length_nil, List.drop_succ_cons, List.drop_zero, catS, Value.category, Nat.reduceAdd, Nat.reduceLT, Nat.reduceLeDiff, Nat.le_refl, and_self, and_true, true_and]; done) | (simp only [hK_sI, hN_sI, hK_sL, hN_sL, hK_sR, hN_sR, hK_sA, hN_sA, hK_sLA, hN_sLA]; first | assumption | omega)) only [ex_iadd, ex_isub, ex_imul, ex_iand, ex_ior, ex_ixor, ex_ishl, ex_ishr, ex_iushr, ex_ladd, ex_lsub, ex_lmul, ex_idiv, ex_irem, ex_ldiv, ex_lrem, ex_lshl, ex_lushr, ex_lcmp, ex_i2l, ex_l2i, ex_i2b, ex_iconst, ex_lconst, ex_null, ex_iload, ex_lload, ex_aload, ex_istore, ex_astore, ex_astoreN, ex_lstore, ex_iinc, ex_dup_int, ex_pop_int, ex_dup_ref, ex_pop_ref, ex_dup2l, ex_dup2ri, ex_pop2, ex_goto, ex_jsr, ex_ifnull, ex_ifnullN, ex_ifnn, ex_ifnnN, ex_calls, ex_callv, ex_ireturn, ex_zB, ex_z0, ex_z1, ex_lreturn, ex_vreturn, ex_obj, ex_icmp_eq, ex_icmp_ne, ex_icmp_lt, ex_icmp_ge, ex_icmp_gt, ex_icmp_le, ex_ifc_eq, ex_ifc_ne, ex_ifc_lt, ex_ifc_ge, ex_ifc_gt, ex_ifc_le, lget_cons0, lget_cons, lset1, lclr, isL, List.length_cons, List.length_nil, List.take, List.drop, List.take_zero, List.drop_zero, List.reverse_cons, List.reverse_nil, List.nil_append, List.cons_append, catS, Value.category, tl_some, tl_none, rf_some, rf_none, Int.toNat_natCast, Int.reduceToNat, Nat.reduceAdd, Nat.reduceLT, Nat.reduceLeDiff, Nat.reduceEqDiff, and_true, true_and, and_self, eq_self, reduceIte, false_and, and_false, Bool.false_eq_true, Bool.true_eq_false, or_true, true_or, or_false, false_or, not_true_eq_false, not_false_eq_true, ite_true, ite_false, if_true, if_false, linit, largs, List.replicate, Nat.reduceSub, Nat.sub_self, kim1000000000, kim2, kim1, ki0, ki1, ki2, ki3, ki4, ki5, ki6, ki7, ki8, ki9, ki10, ki12, ki15, ki16, ki20, ki24, ki30, ki32, ki33, ki38, ki40, ki41, ki42, ki43, ki44, ki45, ki46, ki47, ki48, ki50, ki52, ki57, ki58, ki59, ki60, ki61, ki62, ki63, ki91, ki93, ki97, ki99, ki100, ki102, ki108, ki109, ki110, ki111, ki116, ki119, ki120, ki121, ki124, ki128, ki200, ki240, ki255, ki480, ki680, ki999, ki1000, ki7776, ki252645135, ki858993459, ki1431655765, klm1000000000, klm1000000, klm1, kl0, kl1, kl2, kl3, kl4, kl5, kl12, kl60, kl99, kl999, kl1000, kl1000000, kl1000000000, kl4294967295, kl1442695040888963407, kl6364136223846793005, hK_sI, hN_sI, hI_sI, hL_sI, hR_sI, hZ_sI, hC_sI, hS_sI, hK_sL, hN_sL, hI_sL, hL_sL, hR_sL, hZ_sL, hC_sL, hS_sL, hK_sR, hN_sR, hI_sR, hL_sR, hR_sR, hZ_sR, hC_sR, hS_sR, hK_sA, hN_sA, hI_sA, hL_sA, hR_sA, hK_sLA, hN_sLA, hI_sLA, hL_sLA, hR_sLA, up2_at, vu_at, decide_true, decide_false, Bool.false_and, Bool.true_and, Bool.and_true, Bool.and_false, nI_ltN, nI_leN, nI_eqN, nI_eq0, nI_lt0N, nI_le0N, nI_gt0N, nI_le00N, nI_add, nI_mul, bB_0, bB_n, d_le, d_nle, d_lt, d_nlt, d_eq, d_ne, u_k0, u_k1, u_k4, u_k5, u_k7, u_k8, u_k11, u_k14, u_k21, u_k24, u_k33, u_k36, u_k37, u_k41, u_k45, u_k55, u_k66, u_k68, u_k70, u_k72, u_k74]
    exact hQ h1 w a1
  · have q0' : ¬ x = 0 := q0
    rw [if_neg q0] at hQ
    by_cases q1 : x = nI 1
    · subst q1
      rw [if_pos rfl] at hQ
      simp (disch := first | (simp only [Fr_sI, Fr_sL, Fr_sA, Fr_sLA]; assumption) | assumption | decide | omega | (simp only [List.length_cons, List.length_nil, List.drop_succ_cons, List.drop_zero, catS, Value.category, Nat.reduceAdd, Nat.reduceLT, Nat.reduceLeDiff, Nat.le_refl, and_self, and_true, true_and]; done) | (simp only [hK_sI, hN_sI, hK_sL, hN_sL, hK_sR, hN_sR, hK_sA, hN_sA, hK_sLA, hN_sLA]; first | assumption | omega)) only [ex_iadd, ex_isub, ex_imul, ex_iand, ex_ior, ex_ixor, ex_ishl, ex_ishr, ex_iushr, ex_ladd, ex_lsub, ex_lmul, ex_idiv, ex_irem, ex_ldiv, ex_lrem, ex_lshl, ex_lushr, ex_lcmp, ex_i2l, ex_l2i, ex_i2b, ex_iconst, ex_lconst, ex_null, ex_iload, ex_lload, ex_aload, ex_istore, ex_astore, ex_astoreN, ex_lstore, ex_iinc, ex_dup_int, ex_pop_int, ex_dup_ref, ex_pop_ref, ex_dup2l, ex_dup2ri, ex_pop2, ex_goto, ex_jsr, ex_ifnull, ex_ifnullN, ex_ifnn, ex_ifnnN, ex_calls, ex_callv, ex_ireturn, ex_zB, ex_z0, ex_z1, ex_lreturn, ex_vreturn, ex_obj, ex_icmp_eq, ex_icmp_ne, ex_icmp_lt, ex_icmp_ge, ex_icmp_gt, ex_icmp_le, ex_ifc_eq, ex_ifc_ne, ex_ifc_lt, ex_ifc_ge, ex_ifc_gt, ex_ifc_le, lget_cons0, lget_cons, lset1, lclr, isL, List.length_cons, List.length_nil, List.take, List.drop, List.take_zero, List.drop_zero, List.reverse_cons, List.reverse_nil, List.nil_append, List.cons_append, catS, Value.category, tl_some, tl_none, rf_some, rf_none, Int.toNat_natCast, Int.reduceToNat, Nat.reduceAdd, Nat.reduceLT, Nat.reduceLeDiff, Nat.reduceEqDiff, and_true, true_and, and_self, eq_self, reduceIte, false_and, and_false, Bool.false_eq_true, Bool.true_eq_false, or_true, true_or, or_false, false_or, not_true_eq_false, not_false_eq_true, ite_true, ite_false, if_true, if_false, linit, largs, List.replicate, Nat.reduceSub, Nat.sub_self, kim1000000000, kim2, kim1, ki0, ki1, ki2, ki3, ki4, ki5, ki6, ki7, ki8, ki9, ki10, ki12, ki15, ki16, ki20, ki24, ki30, ki32, ki33, ki38, ki40, ki41, ki42, ki43, ki44, ki45, ki46, ki47, ki48, ki50, ki52, ki57, ki58, ki59, ki60, ki61, ki62, ki63, ki91, ki93, ki97, ki99, ki100, ki102, ki108, ki109, ki110, ki111, ki116, ki119, ki120, ki121, ki124, ki128, ki200, ki240, ki255, ki480, ki680, ki999, ki1000, ki7776, ki252645135, ki858993459, ki1431655765, klm1000000000, klm1000000, klm1, kl0, kl1, kl2, kl3, kl4, kl5, kl12, kl60, kl99, kl999, kl1000, kl1000000, kl1000000000, kl4294967295, kl1442695040888963407, kl6364136223846793005, hK_sI, hN_sI, hI_sI, hL_sI, hR_sI, hZ_sI, hC_sI, hS_sI, hK_sL, hN_sL, hI_sL, hL_sL, hR_sL, hZ_sL, hC_sL, hS_sL, hK_sR, hN_sR, hI_sR, hL_sR, hR_sR, hZ_sR, hC_sR, hS_sR, hK_sA, hN_sA, hI_sA, hL_sA, hR_sA, hK_sLA, hN_sLA, hI_sLA, hL_sLA, hR_sLA, up2_at, vu_at, decide_true, decide_false, Bool.false_and, Bool.true_and, Bool.and_true, Bool.and_false, nI_ltN, nI_leN, nI_eqN, nI_eq0, nI_lt0N, nI_le0N, nI_gt0N, nI_le00N, nI_add, nI_mul, bB_0, bB_n, d_le, d_nle, d_lt, d_nlt, d_eq, d_ne, u_k0, u_k1, u_k4, u_k5, u_k7, u_k8, u_k11, u_k14, u_k21, u_k24, u_k33, u_k36, u_k37, u_k41, u_k45, u_k55, u_k66, u_k68, u_k70, u_k72, u_k74, b3_0, b3_1, b3_3, u_gI0, u_pI0, u_pZa0, u_pZb0, u_pZc0, u_rf0_0, u_rf0_1, u_rf0_3, u_rf0_4, u_rf0_5, u_rf0_6, u_rf0_7, u_rf0_8, u_rf0_9, u_rf0_11, u_rf0_12, u_rf0_13, u_rf0_14, u_rf0_15, u_k0]
      refine c_faultR (D := D + 4) f xt e74 hk (fun h1 w a1 _ => ?_)
      simp (disch := first | (simp only [Fr_sI, Fr_sL, Fr_sA, Fr_sLA]; assumption) | assumption | decide | omega | (simp only [List.length_cons, List.length_nil, List.drop_succ_cons, List.drop_zero, catS, Value.category, Nat.reduceAdd, Nat.reduceLT, Nat.reduceLeDiff, Nat.le_refl, and_self, and_true, true_and]; done) | (simp only [hK_sI, hN_sI, hK_sL, hN_sL, hK_sR, hN_sR, hK_sA, hN_sA, hK_sLA, hN_sLA]; first | assumption | omega)) only [ex_iadd, ex_isub, ex_imul, ex_iand, ex_ior, ex_ixor, ex_ishl, ex_ishr, ex_iushr, ex_ladd, ex_lsub, ex_lmul, ex_idiv, ex_irem, ex_ldiv, ex_lrem, ex_lshl, ex_lushr, ex_lcmp, ex_i2l, ex_l2i, ex_i2b, ex_iconst, ex_lconst, ex_null, ex_iload, ex_lload, ex_aload, ex_istore, ex_astore, ex_astoreN, ex_lstore, ex_iinc, ex_dup_int, ex_pop_int, ex_dup_ref, ex_pop_ref, ex_dup2l, ex_dup2ri, ex_pop2, ex_goto, ex_jsr, ex_ifnull, ex_ifnullN, ex_ifnn, ex_ifnnN, ex_calls, ex_callv, ex_ireturn, ex_zB, ex_z0, ex_z1, ex_lreturn, ex_vreturn, ex_obj, ex_icmp_eq, ex_icmp_ne, ex_icmp_lt, ex_icmp_ge, ex_icmp_gt, ex_icmp_le, ex_ifc_eq, ex_ifc_ne, ex_ifc_lt, ex_ifc_ge, ex_ifc_gt, ex_ifc_le, lget_cons0, lget_cons, lset1, lclr, isL, List.length_cons, List.length_nil, List.take, List.drop, List.take_zero, List.drop_zero, List.reverse_cons, List.reverse_nil, List.nil_append, List.cons_append, catS, Value.category, tl_some, tl_none, rf_some, rf_none, Int.toNat_natCast, Int.reduceToNat, Nat.reduceAdd, Nat.reduceLT, Nat.reduceLeDiff, Nat.reduceEqDiff, and_true, true_and, and_self, eq_self, reduceIte, false_and, and_false, Bool.false_eq_true, Bool.true_eq_false, or_true, true_or, or_false, false_or, not_true_eq_false, not_false_eq_true, ite_true, ite_false, if_true, if_false, linit, largs, List.replicate, Nat.reduceSub, Nat.sub_self, kim1000000000, kim2, kim1, ki0, ki1, ki2, ki3, ki4, ki5, ki6, ki7, ki8, ki9, ki10, ki12, ki15, ki16, ki20, ki24, ki30, ki32, ki33, ki38, ki40, ki41, ki42, ki43, ki44, ki45, ki46, ki47, ki48, ki50, ki52, ki57, ki58, ki59, ki60, ki61, ki62, ki63, ki91, ki93, ki97, ki99, ki100, ki102, ki108, ki109, ki110, ki111, ki116, ki119, ki120, ki121, ki124, ki128, ki200, ki240, ki255, ki480, ki680, ki999, ki1000, ki7776, ki252645135, ki858993459, ki1431655765, klm1000000000, klm1000000, klm1, kl0, kl1, kl2, kl3, kl4, kl5, kl12, kl60, kl99, kl999, kl1000, kl1000000, kl1000000000, kl4294967295, kl1442695040888963407, kl6364136223846793005, hK_sI, hN_sI, hI_sI, hL_sI, hR_sI, hZ_sI, hC_sI, hS_sI, hK_sL, hN_sL, hI_sL, hL_sL, hR_sL, hZ_sL, hC_sL, hS_sL, hK_sR, hN_sR, hI_sR, hL_sR, hR_sR, hZ_sR, hC_sR, hS_sR, hK_sA, hN_sA, hI_sA, hL_sA, hR_sA, hK_sLA, hN_sLA, hI_sLA, hL_sLA, hR_sLA, up2_at, vu_at, decide_true, decide_false, Bool.false_and, Bool.true_and, Bool.and_true, Bool.and_false, nI_ltN, nI_leN, nI_eqN, nI_eq0, nI_lt0N, nI_le0N, nI_gt0N, nI_le00N, nI_add, nI_mul, bB_0, bB_n, d_le, d_nle, d_lt, d_nlt, d_eq, d_ne, u_k0, u_k1, u_k4, u_k5, u_k7, u_k8, u_k11, u_k14, u_k21, u_k24, u_k33, u_k36, u_k37, u_k41, u_k45, u_k55, u_k66, u_k68, u_k70, u_k72, u_k74, b3_3]
      exact hQ h1 w a1
    · rw [if_neg q1] at hQ
      simp (disch := first | (simp only [Fr_sI, Fr_sL, Fr_sA, Fr_sLA]; assumption) | assumption | decide | omega | (simp only [List.length_cons, List.length_nil, List.drop_succ_cons, List.drop_zero, catS, Value.category, Nat.reduceAdd, Nat.reduceLT, Nat.reduceLeDiff, Nat.le_refl, and_self, and_true, true_and]; done) | (simp only [hK_sI, hN_sI, hK_sL, hN_sL, hK_sR, hN_sR, hK_sA, hN_sA, hK_sLA, hN_sLA]; first | assumption | omega)) only [ex_iadd, ex_isub, ex_imul, ex_iand, ex_ior, ex_ixor, ex_ishl, ex_ishr, ex_iushr, ex_ladd, ex_lsub, ex_lmul, ex_idiv, ex_irem, ex_ldiv, ex_lrem, ex_lshl, ex_lushr, ex_lcmp, ex_i2l, ex_l2i, ex_i2b, ex_iconst, ex_lconst, ex_null, ex_iload, ex_lload, ex_aload, ex_istore, ex_astore, ex_astoreN, ex_lstore, ex_iinc, ex_dup_int, ex_pop_int, ex_dup_ref, ex_pop_ref, ex_dup2l, ex_dup2ri, ex_pop2, ex_goto, ex_jsr, ex_ifnull, ex_ifnullN, ex_ifnn, ex_ifnnN, ex_calls, ex_callv, ex_ireturn, ex_zB, ex_z0, ex_z1, ex_lreturn, ex_vreturn, ex_obj, ex_icmp_eq, ex_icmp_ne, ex_icmp_lt, ex_icmp_ge, ex_icmp_gt, ex_icmp_le, ex_ifc_eq, ex_ifc_ne, ex_ifc_lt, ex_ifc_ge, ex_ifc_gt, ex_ifc_le, lget_cons0, lget_cons, lset1, lclr, isL, List.length_cons, List.length_nil, List.take, List.drop, List.take_zero, List.drop_zero, List.reverse_cons, List.reverse_nil, List.nil_append, List.cons_append, catS, Value.category, tl_some, tl_none, rf_some, rf_none, Int.toNat_natCast, Int.reduceToNat, Nat.reduceAdd, Nat.reduceLT, Nat.reduceLeDiff, Nat.reduceEqDiff, and_true, true_and, and_self, eq_self, reduceIte, false_and, and_false, Bool.false_eq_true, Bool.true_eq_false, or_true, true_or, or_false, false_or, not_true_eq_false, not_false_eq_true, ite_true, ite_false, if_true, if_false, linit, largs, List.replicate, Nat.reduceSub, Nat.sub_self, kim1000000000, kim2, kim1, ki0, ki1, ki2, ki3, ki4, ki5, ki6, ki7, ki8, ki9, ki10, ki12, ki15, ki16, ki20, ki24, ki30, ki32, ki33, ki38, ki40, ki41, ki42, ki43, ki44, ki45, ki46, ki47, ki48, ki50, ki52, ki57, ki58, ki59, ki60, ki61, ki62, ki63, ki91, ki93, ki97, ki99, ki100, ki102, ki108, ki109, ki110, ki111, ki116, ki119, ki120, ki121, ki124, ki128, ki200, ki240, ki255, ki480, ki680, ki999, ki1000, ki7776, ki252645135, ki858993459, ki1431655765, klm1000000000, klm1000000, klm1, kl0, kl1, kl2, kl3, kl4, kl5, kl12, kl60, kl99, kl999, kl1000, kl1000000, kl1000000000, kl4294967295, kl1442695040888963407, kl6364136223846793005, hK_sI, hN_sI, hI_sI, hL_sI, hR_sI, hZ_sI, hC_sI, hS_sI, hK_sL, hN_sL, hI_sL, hL_sL, hR_sL, hZ_sL, hC_sL, hS_sL, hK_sR, hN_sR, hI_sR, hL_sR, hR_sR, hZ_sR, hC_sR, hS_sR, hK_sA, hN_sA, hI_sA, hL_sA, hR_sA, hK_sLA, hN_sLA, hI_sLA, hL_sLA, hR_sLA, up2_at, vu_at, decide_true, decide_false, Bool.false_and, Bool.true_and, Bool.and_true, Bool.and_false, nI_ltN, nI_leN, nI_eqN, nI_eq0, nI_lt0N, nI_le0N, nI_gt0N, nI_le00N, nI_add, nI_mul, bB_0, bB_n, d_le, d_nle, d_lt, d_nlt, d_eq, d_ne, u_k0, u_k1, u_k4, u_k5, u_k7, u_k8, u_k11, u_k14, u_k21, u_k24, u_k33, u_k36, u_k37, u_k41, u_k45, u_k55, u_k66, u_k68, u_k70, u_k72, u_k74, b3_0, b3_1, b3_2, b3_3, q0', q1, u_gI0, u_pI0, u_pZa0, u_pZb0, u_pZc0, u_rf0_0, u_rf0_1, u_rf0_3, u_rf0_4, u_rf0_5, u_rf0_6, u_rf0_7, u_rf0_8, u_rf0_9, u_rf0_11, u_rf0_12, u_rf0_13, u_rf0_14, u_rf0_15, u_k0]
      exact hQ h (Sm.rf _ h) e74
/-- fault(sort) of the model, sort 0 or 1 -/
theorem m_faultX {x : Int32} (f : Fr h) (xm : XM h 75 0 L tp) (h6 : hI h 74 6 = nI L) (hx : dIn 2 x = true) (hQ : ∀ h1, Sm sFm h h1 → (x = nI 0 → (lwP tp L).1 = 0 → ∀ i, i < 6 → hI h1 80 i = nI ((lwP tp L).2.2 i)) → (x = nI 1 → (ruP tp L).1 = 1 → (ruP tp L).2.1 ≤ L) → Q (some (.int (if x = nI 0 then fltL tp L else fltR tp L))) h1) : Ev (D + 820) 107 [.ref 74, .int x] h Q := by
  have m1 : ∀ u j, sLm u j = true → sFm u j = true := fun u j => by simp only [sLm, sFm, Bool.or_eq_true, Bool.and_eq_true, beq_iff_eq]; omega
  have m2 : ∀ u j, sTh u j = true → sFm u j = true := fun u j => by simp only [sTh, sFm, Bool.or_eq_true, Bool.and_eq_true, beq_iff_eq]; omega
  have s0 : Sm sFm h (sI h 74 0 (nI 0)) := (Sm.rf _ h).wI (a := 74) _ rfl
  have f0 : Fr (sI h 74 0 (nI 0)) := f
  have xm0 : XM (sI h 74 0 (nI 0)) 75 0 L tp := xm
  have h60 : hI (sI h 74 0 (nI 0)) 74 6 = nI L := h6
  have ein := fun D h Q => @ev_isIn0 D 1 (by decide) x h Q
  rw [hx] at ein
  rw [Ev_body 2 rfl rfl]
  obtain ⟨j, hj, rfl⟩ := dIn_get (by decide) hx
  rcases (show j = 0 ∨ j = 1 by omega) with q | q
  · subst q
    rw [if_pos rfl] at hQ
    simp (disch := first | (simp only [Fr_sI, Fr_sL, Fr_sA, Fr_sLA]; assumption) | assumption | decide | omega | (simp only [List.length_cons, List.length_nil, List.drop_succ_cons, List.drop_zero, catS, Value.category, Nat.reduceAdd, Nat.reduceLT, Nat.reduceLeDiff, Nat.le_refl, and_self, and_true, true_and]; done) | (simp only [hK_sI, hN_sI, hK_sL, hN_sL, hK_sR, hN_sR, hK_sA, hN_sA, hK_sLA, hN_sLA]; first | assumption | omega)) only [ex_iadd, ex_isub, ex_imul, ex_iand, ex_ior, ex_ixor, ex_ishl, ex_ishr, ex_iushr, ex_ladd, ex_lsub, ex_lmul, ex_idiv, ex_irem, ex_ldiv, ex_lrem, ex_lshl, ex_lushr, ex_lcmp, ex_i2l, ex_l2i, ex_i2b, ex_iconst, ex_lconst, ex_null, ex_iload, ex_lload, ex_aload, ex_istore, ex_astore, ex_astoreN, ex_lstore, ex_iinc, ex_dup_int, ex_pop_int, ex_dup_ref, ex_pop_ref, ex_dup2l, ex_dup2ri, ex_pop2, ex_goto, ex_jsr, ex_ifnull, ex_ifnullN, ex_ifnn, ex_ifnnN, ex_calls, ex_callv, ex_ireturn, ex_zB, ex_z0, ex_z1, ex_lreturn, ex_vreturn, ex_obj, ex_icmp_eq, ex_icmp_ne, ex_icmp_lt, ex_icmp_ge, ex_icmp_gt, ex_icmp_le, ex_ifc_eq, ex_ifc_ne, ex_ifc_lt, ex_ifc_ge, ex_ifc_gt, ex_ifc_le, lget_cons0, lget_cons, lset1, lclr, isL, List.length_cons, List.length_nil, List.take, List.drop, List.take_zero, List.drop_zero, List.reverse_cons, List.reverse_nil, List.nil_append, List.cons_append, catS, Value.category, tl_some, tl_none, rf_some, rf_none, Int.toNat_natCast, Int.reduceToNat, Nat.reduceAdd, Nat.reduceLT, Nat.reduceLeDiff, Nat.reduceEqDiff, and_true, true_and, and_self, eq_self, reduceIte, false_and, and_false, Bool.false_eq_true, Bool.true_eq_false, or_true, true_or, or_false, false_or, not_true_eq_false, not_false_eq_true, ite_true, ite_false, if_true, if_false, linit, largs, List.replicate, Nat.reduceSub, Nat.sub_self, kim1000000000, kim2, kim1, ki0, ki1, ki2, ki3, ki4, ki5, ki6, ki7, ki8, ki9, ki10, ki12, ki15, ki16, ki20, ki24, ki30, ki32, ki33, ki38, ki40, ki41, ki42, ki43, ki44, ki45, ki46, ki47, ki48, ki50, ki52, ki57, ki58, ki59, ki60, ki61, ki62, ki63, ki91, ki93, ki97, ki99, ki100, ki102, ki108, ki109, ki110, ki111, ki116, ki119, ki120, ki121, ki124, ki128, ki200, ki240, ki255, ki480, ki680, ki999, ki1000, ki7776, ki252645135, ki858993459, ki1431655765, klm1000000000, klm1000000, klm1, kl0, kl1, kl2, kl3, kl4, kl5, kl12, kl60, kl99, kl999, kl1000, kl1000000, kl1000000000, kl4294967295, kl1442695040888963407, kl6364136223846793005, hK_sI, hN_sI, hI_sI, hL_sI, hR_sI, hZ_sI, hC_sI, hS_sI, hK_sL, hN_sL, hI_sL, hL_sL, hR_sL, hZ_sL, hC_sL, hS_sL, hK_sR, hN_sR, hI_sR, hL_sR, hR_sR, hZ_sR, hC_sR, hS_sR, hK_sA, hN_sA, hI_sA, hL_sA, hR_sA, hK_sLA, hN_sLA, hI_sLA, hL_sLA, hR_sLA, up2_at, vu_at, decide_true, decide_false, Bool.false_and, Bool.true_and, Bool.and_true, Bool.and_false, nI_ltN, nI_leN, nI_eqN, nI_eq0, nI_lt0N, nI_le0N, nI_gt0N, nI_le00N, nI_add, nI_mul, bB_0, bB_n, d_le, d_nle, d_lt, d_nlt, d_eq, d_ne, u_k0, u_k1, u_k4, u_k5, u_k7, u_k8, u_k11, u_k14, u_k21, u_k24, u_k33, u_k36, u_k37, u_k41, u_k45, u_k55, u_k66, u_k68, u_k70, u_k72, u_k74, b107_0, b107_1, ein, u_gI74, u_gL74, u_pL74, u_pI74, u_pZa74, u_pZb74, u_pZc74, u_pR74, u_gD74, u_rf74_1, u_rf74_2, u_rf74_3, u_rf74_4, u_rf74_15, u_rf74_16, u_rf74_18, u_rf74_19, u_rf74_21, u_rf74_22, u_rf74_23, u_rf74_24, u_rf74_25, u_rf74_26, u_rf74_27, u_rf74_28, u_rf74_29, u_rf74_39, u_rf74_41, u_rf74_42, u_rf74_43, u_rf74_45, u_rf74_46, u_k74]
    refine lm_read (D := D + 813) f0 xm0 h60 (fun z h1 w a1 a2 => ?_) (fun z h1 w a2 => ?_)
    · have f1 : Fr h1 := w.fr f0 (by decide)
      have k := hQ h1 (s0.tr (w.mn m1)) (fun _ _ => a1) (fun y => absurd y (by decide))
      unfold fltL at k
      rw [if_pos z] at k
      simp (disch := first | (simp only [Fr_sI, Fr_sL, Fr_sA, Fr_sLA]; assumption) | assumption | decide | omega | (simp only [List.length_cons, List.length_nil, List.drop_succ_cons, List.drop_zero, catS, Value.category, Nat.reduceAdd, Nat.reduceLT, Nat.reduceLeDiff, Nat.le_refl, and_self, and_true, true_and]; done) | (simp only [hK_sI, hN_sI, hK_sL, hN_sL, hK_sR, hN_sR, hK_sA, hN_sA, hK_sLA, hN_sLA]; first | assumption | omega)) only [ex_iadd, ex_isub, ex_imul, ex_iand, ex_ior, ex_ixor, ex_ishl, ex_ishr, ex_iushr, ex_ladd, ex_lsub, ex_lmul, ex_idiv, ex_irem, ex_ldiv, ex_lrem, ex_lshl, ex_lushr, ex_lcmp, ex_i2l, ex_l2i, ex_i2b, ex_iconst, ex_lconst, ex_null, ex_iload, ex_lload, ex_aload, ex_istore, ex_astore, ex_astoreN, ex_lstore, ex_iinc, ex_dup_int, ex_pop_int, ex_dup_ref, ex_pop_ref, ex_dup2l, ex_dup2ri, ex_pop2, ex_goto, ex_jsr, ex_ifnull, ex_ifnullN, ex_ifnn, ex_ifnnN, ex_calls, ex_callv, ex_ireturn, ex_zB, ex_z0, ex_z1, ex_lreturn, ex_vreturn, ex_obj, ex_icmp_eq, ex_icmp_ne, ex_icmp_lt, ex_icmp_ge, ex_icmp_gt, ex_icmp_le, ex_ifc_eq, ex_ifc_ne, ex_ifc_lt, ex_ifc_ge, ex_ifc_gt, ex_ifc_le, lget_cons0, lget_cons, lset1, lclr, isL, List.length_cons, List.length_nil, List.take, List.drop, List.take_zero, List.drop_zero, List.reverse_cons, List.reverse_nil, List.nil_append, List.cons_append, catS, Value.category, tl_some, tl_none, rf_some, rf_none, Int.toNat_natCast, Int.reduceToNat, Nat.reduceAdd, Nat.reduceLT, Nat.reduceLeDiff, Nat.reduceEqDiff, and_true, true_and, and_self, eq_self, reduceIte, false_and, and_false, Bool.false_eq_true, Bool.true_eq_false, or_true, true_or, or_false, false_or, not_true_eq_false, not_false_eq_true, ite_true, ite_false, if_true, if_false, linit, largs, List.replicate, Nat.reduceSub, Nat.sub_self, kim1000000000, kim2, kim1, ki0, ki1, ki2, ki3, ki4, ki5, ki6, ki7, ki8, ki9, ki10, ki12, ki15, ki16, ki20, ki24, ki30, ki32, ki33, ki38, ki40, ki41, ki42, ki43, ki44, ki45, ki46, ki47, ki48, ki50, ki52, ki57, ki58, ki59, ki60, ki61, ki62, ki63, ki91, ki93, ki97, ki99, ki100, ki102, ki108, ki109, ki110, ki111, ki116, ki119, ki120, ki121, ki124, ki128, ki200, ki240, ki255, ki480, ki680, ki999, ki1000, ki7776, ki252645135, ki858993459, ki1431655765, klm1000000000, klm1000000, klm1, kl0, kl1, kl2, kl3, kl4, kl5, kl12, kl60, kl99, kl999, kl1000, kl1000000, kl1000000000, kl4294967295, kl1442695040888963407, kl6364136223846793005, hK_sI, hN_sI, hI_sI, hL_sI, hR_sI, hZ_sI, hC_sI, hS_sI, hK_sL, hN_sL, hI_sL, hL_sL, hR_sL, hZ_sL, hC_sL, hS_sL, hK_sR, hN_sR, hI_sR, hL_sR, hR_sR, hZ_sR, hC_sR, hS_sR, hK_sA, hN_sA, hI_sA, hL_sA, hR_sA, hK_sLA, hN_sLA, hI_sLA, hL_sLA, hR_sLA, up2_at, vu_at, decide_true, decide_false, Bool.false_and, Bool.true_and, Bool.and_true, Bool.and_false, nI_ltN, nI_leN, nI_eqN, nI_eq0, nI_lt0N, nI_le0N, nI_gt0N, nI_le00N, nI_add, nI_mul, bB_0, bB_n, d_le, d_nle, d_lt, d_nlt, d_eq, d_ne, u_k0, u_k1, u_k4, u_k5, u_k7, u_k8, u_k11, u_k14, u_k21, u_k24, u_k33, u_k36, u_k37, u_k41, u_k45, u_k55, u_k66, u_k68, u_k70, u_k72, u_k74, b107_3, a2, u_gI74, u_gL74, u_pL74, u_pI74, u_pZa74, u_pZb74, u_pZc74, u_pR74, u_gD74, u_rf74_1, u_rf74_2, u_rf74_3, u_rf74_4, u_rf74_15, u_rf74_16, u_rf74_18, u_rf74_19, u_rf74_21, u_rf74_22, u_rf74_23, u_rf74_24, u_rf74_25, u_rf74_26, u_rf74_27, u_rf74_28, u_rf74_29, u_rf74_39, u_rf74_41, u_rf74_42, u_rf74_43, u_rf74_45, u_rf74_46, u_k74]
      exact k
    · have f1 : Fr h1 := w.fr f0 (by decide)
      have k := hQ h1 (s0.tr (w.mn m1)) (fun _ z2 => by omega) (fun y => absurd y (by decide))
      unfold fltL at k
      rw [if_neg (by omega)] at k
      simp (disch := first | (simp only [Fr_sI, Fr_sL, Fr_sA, Fr_sLA]; assumption) | assumption | decide | omega | (simp only [List.length_cons, List.length_nil, List.drop_succ_cons, List.drop_zero, catS, Value.category, Nat.reduceAdd, Nat.reduceLT, Nat.reduceLeDiff, Nat.le_refl, and_self, and_true, true_and]; done) | (simp only [hK_sI, hN_sI, hK_sL, hN_sL, hK_sR, hN_sR, hK_sA, hN_sA, hK_sLA, hN_sLA]; first | assumption | omega)) only [ex_iadd, ex_isub, ex_imul, ex_iand, ex_ior, ex_ixor, ex_ishl, ex_ishr, ex_iushr, ex_ladd, ex_lsub, ex_lmul, ex_idiv, ex_irem, ex_ldiv, ex_lrem, ex_lshl, ex_lushr, ex_lcmp, ex_i2l, ex_l2i, ex_i2b, ex_iconst, ex_lconst, ex_null, ex_iload, ex_lload, ex_aload, ex_istore, ex_astore, ex_astoreN, ex_lstore, ex_iinc, ex_dup_int, ex_pop_int, ex_dup_ref, ex_pop_ref, ex_dup2l, ex_dup2ri, ex_pop2, ex_goto, ex_jsr, ex_ifnull, ex_ifnullN, ex_ifnn, ex_ifnnN, ex_calls, ex_callv, ex_ireturn, ex_zB, ex_z0, ex_z1, ex_lreturn, ex_vreturn, ex_obj, ex_icmp_eq, ex_icmp_ne, ex_icmp_lt, ex_icmp_ge, ex_icmp_gt, ex_icmp_le, ex_ifc_eq, ex_ifc_ne, ex_ifc_lt, ex_ifc_ge, ex_ifc_gt, ex_ifc_le, lget_cons0, lget_cons, lset1, lclr, isL, List.length_cons, List.length_nil, List.take, List.drop, List.take_zero, List.drop_zero, List.reverse_cons, List.reverse_nil, List.nil_append, List.cons_append, catS, Value.category, tl_some, tl_none, rf_some, rf_none, Int.toNat_natCast, Int.reduceToNat, Nat.reduceAdd, Nat.reduceLT, Nat.reduceLeDiff, Nat.reduceEqDiff, and_true, true_and, and_self, eq_self, reduceIte, false_and, and_false, Bool.false_eq_true, Bool.true_eq_false, or_true, true_or, or_false, false_or, not_true_eq_false, not_false_eq_true, ite_true, ite_false, if_true, if_false, linit, largs, List.replicate, Nat.reduceSub, Nat.sub_self, kim1000000000, kim2, kim1, ki0, ki1, ki2, ki3, ki4, ki5, ki6, ki7, ki8, ki9, ki10, ki12, ki15, ki16, ki20, ki24, ki30, ki32, ki33, ki38, ki40, ki41, ki42, ki43, ki44, ki45, ki46, ki47, ki48, ki50, ki52, ki57, ki58, ki59, ki60, ki61, ki62, ki63, ki91, ki93, ki97, ki99, ki100, ki102, ki108, ki109, ki110, ki111, ki116, ki119, ki120, ki121, ki124, ki128, ki200, ki240, ki255, ki480, ki680, ki999, ki1000, ki7776, ki252645135, ki858993459, ki1431655765, klm1000000000, klm1000000, klm1, kl0, kl1, kl2, kl3, kl4, kl5, kl12, kl60, kl99, kl999, kl1000, kl1000000, kl1000000000, kl4294967295, kl1442695040888963407, kl6364136223846793005, hK_sI, hN_sI, hI_sI, hL_sI, hR_sI, hZ_sI, hC_sI, hS_sI, hK_sL, hN_sL, hI_sL, hL_sL, hR_sL, hZ_sL, hC_sL, hS_sL, hK_sR, hN_sR, hI_sR, hL_sR, hR_sR, hZ_sR, hC_sR, hS_sR, hK_sA, hN_sA, hI_sA, hL_sA, hR_sA, hK_sLA, hN_sLA, hI_sLA, hL_sLA, hR_sLA, up2_at, vu_at, decide_true, decide_false, Bool.false_and, Bool.true_and, Bool.and_true, Bool.and_false, nI_ltN, nI_leN, nI_eqN, nI_eq0, nI_lt0N, nI_le0N, nI_gt0N, nI_le00N, nI_add, nI_mul, bB_0, bB_n, d_le, d_nle, d_lt, d_nlt, d_eq, d_ne, u_k0, u_k1, u_k4, u_k5, u_k7, u_k8, u_k11, u_k14, u_k21, u_k24, u_k33, u_k36, u_k37, u_k41, u_k45, u_k55, u_k66, u_k68, u_k70, u_k72, u_k74, b107_3, a2, u_gI74, u_gL74, u_pL74, u_pI74, u_pZa74, u_pZb74, u_pZc74, u_pR74, u_gD74, u_rf74_1, u_rf74_2, u_rf74_3, u_rf74_4, u_rf74_15, u_rf74_16, u_rf74_18, u_rf74_19, u_rf74_21, u_rf74_22, u_rf74_23, u_rf74_24, u_rf74_25, u_rf74_26, u_rf74_27, u_rf74_28, u_rf74_29, u_rf74_39, u_rf74_41, u_rf74_42, u_rf74_43, u_rf74_45, u_rf74_46, u_k74]
      exact k
  · subst q
    rw [if_neg (by decide)] at hQ
    simp (disch := first | (simp only [Fr_sI, Fr_sL, Fr_sA, Fr_sLA]; assumption) | assumption | decide | omega | (simp only [List.length_cons, List.length_nil, List.drop_succ_cons, List.drop_zero, catS, Value.category, Nat.reduceAdd, Nat.reduceLT, Nat.reduceLeDiff, Nat.le_refl, and_self, and_true, true_and]; done) | (simp only [hK_sI, hN_sI, hK_sL, hN_sL, hK_sR, hN_sR, hK_sA, hN_sA, hK_sLA, hN_sLA]; first | assumption | omega)) only [ex_iadd, ex_isub, ex_imul, ex_iand, ex_ior, ex_ixor, ex_ishl, ex_ishr, ex_iushr, ex_ladd, ex_lsub, ex_lmul, ex_idiv, ex_irem, ex_ldiv, ex_lrem, ex_lshl, ex_lushr, ex_lcmp, ex_i2l, ex_l2i, ex_i2b, ex_iconst, ex_lconst, ex_null, ex_iload, ex_lload, ex_aload, ex_istore, ex_astore, ex_astoreN, ex_lstore, ex_iinc, ex_dup_int, ex_pop_int, ex_dup_ref, ex_pop_ref, ex_dup2l, ex_dup2ri, ex_pop2, ex_goto, ex_jsr, ex_ifnull, ex_ifnullN, ex_ifnn, ex_ifnnN, ex_calls, ex_callv, ex_ireturn, ex_zB, ex_z0, ex_z1, ex_lreturn, ex_vreturn, ex_obj, ex_icmp_eq, ex_icmp_ne, ex_icmp_lt, ex_icmp_ge, ex_icmp_gt, ex_icmp_le, ex_ifc_eq, ex_ifc_ne, ex_ifc_lt, ex_ifc_ge, ex_ifc_gt, ex_ifc_le, lget_cons0, lget_cons, lset1, lclr, isL, List.length_cons, List.length_nil, List.take, List.drop, List.take_zero, List.drop_zero, List.reverse_cons, List.reverse_nil, List.nil_append, List.cons_append, catS, Value.category, tl_some, tl_none, rf_some, rf_none, Int.toNat_natCast, Int.reduceToNat, Nat.reduceAdd, Nat.reduceLT, Nat.reduceLeDiff, Nat.reduceEqDiff, and_true, true_and, and_self, eq_self, reduceIte, false_and, and_false, Bool.false_eq_true, Bool.true_eq_false, or_true, true_or, or_false, false_or, not_true_eq_false, not_false_eq_true, ite_true, ite_false, if_true, if_false, linit, largs, List.replicate, Nat.reduceSub, Nat.sub_self, kim1000000000, kim2, kim1, ki0, ki1, ki2, ki3, ki4, ki5, ki6, ki7, ki8, ki9, ki10, ki12, ki15, ki16, ki20, ki24, ki30, ki32, ki33, ki38, ki40, ki41, ki42, ki43, ki44, ki45, ki46, ki47, ki48, ki50, ki52, ki57, ki58, ki59, ki60, ki61, ki62, ki63, ki91, ki93, ki97, ki99, ki100, ki102, ki108, ki109, ki110, ki111, ki116, ki119, ki120, ki121, ki124, ki128, ki200, ki240, ki255, ki480, ki680, ki999, ki1000, ki7776, ki252645135, ki858993459, ki1431655765, klm1000000000, klm1000000, klm1, kl0, kl1, kl2, kl3, kl4, kl5, kl12, kl60, kl99, kl999, kl1000, kl1000000, kl1000000000, kl4294967295, kl1442695040888963407, kl6364136223846793005, hK_sI, hN_sI, hI_sI, hL_sI, hR_sI, hZ_sI, hC_sI, hS_sI, hK_sL, hN_sL, hI_sL, hL_sL, hR_sL, hZ_sL, hC_sL, hS_sL, hK_sR, hN_sR, hI_sR, hL_sR, hR_sR, hZ_sR, hC_sR, hS_sR, hK_sA, hN_sA, hI_sA, hL_sA, hR_sA, hK_sLA, hN_sLA, hI_sLA, hL_sLA, hR_sLA, up2_at, vu_at, decide_true, decide_false, Bool.false_and, Bool.true_and, Bool.and_true, Bool.and_false, nI_ltN, nI_leN, nI_eqN, nI_eq0, nI_lt0N, nI_le0N, nI_gt0N, nI_le00N, nI_add, nI_mul, bB_0, bB_n, d_le, d_nle, d_lt, d_nlt, d_eq, d_ne, u_k0, u_k1, u_k4, u_k5, u_k7, u_k8, u_k11, u_k14, u_k21, u_k24, u_k33, u_k36, u_k37, u_k41, u_k45, u_k55, u_k66, u_k68, u_k70, u_k72, u_k74, b107_0, b107_1, b107_2, ein, h60, u_gI74, u_gL74, u_pL74, u_pI74, u_pZa74, u_pZb74, u_pZc74, u_pR74, u_gD74, u_rf74_1, u_rf74_2, u_rf74_3, u_rf74_4, u_rf74_15, u_rf74_16, u_rf74_18, u_rf74_19, u_rf74_21, u_rf74_22, u_rf74_23, u_rf74_24, u_rf74_25, u_rf74_26, u_rf74_27, u_rf74_28, u_rf74_29, u_rf74_39, u_rf74_41, u_rf74_42, u_rf74_43, u_rf74_45, u_rf74_46, u_k74]
    refine m_thr (D := D + 4) (lt := ltM (sI h 74 0 (nI 0))) f0 xm0 (fun c hc => ltM_lix hc) (fun z h1 w a1 a2 => ?_) (fun z zl h1 w a1 => ?_)
    · have f1 : Fr h1 := w.fr f0 (by decide)
      have k := hQ h1 (s0.tr (w.mn m2)) (fun q => absurd q (by decide)) (fun _ y => by omega)
      unfold fltR at k
      rw [if_pos z] at k
      simp (disch := first | (simp only [Fr_sI, Fr_sL, Fr_sA, Fr_sLA]; assumption) | assumption | decide | omega | (simp only [List.length_cons, List.length_nil, List.drop_succ_cons, List.drop_zero, catS, Value.category, Nat.reduceAdd, Nat.reduceLT, Nat.reduceLeDiff, Nat.le_refl, and_self, and_true, true_and]; done) | (simp only [hK_sI, hN_sI, hK_sL, hN_sL, hK_sR, hN_sR, hK_sA, hN_sA, hK_sLA, hN_sLA]; first | assumption | omega)) only [ex_iadd, ex_isub, ex_imul, ex_iand, ex_ior, ex_ixor, ex_ishl, ex_ishr, ex_iushr, ex_ladd, ex_lsub, ex_lmul, ex_idiv, ex_irem, ex_ldiv, ex_lrem, ex_lshl, ex_lushr, ex_lcmp, ex_i2l, ex_l2i, ex_i2b, ex_iconst, ex_lconst, ex_null, ex_iload, ex_lload, ex_aload, ex_istore, ex_astore, ex_astoreN, ex_lstore, ex_iinc, ex_dup_int, ex_pop_int, ex_dup_ref, ex_pop_ref, ex_dup2l, ex_dup2ri, ex_pop2, ex_goto, ex_jsr, ex_ifnull, ex_ifnullN, ex_ifnn, ex_ifnnN, ex_calls, ex_callv, ex_ireturn, ex_zB, ex_z0, ex_z1, ex_lreturn, ex_vreturn, ex_obj, ex_icmp_eq, ex_icmp_ne, ex_icmp_lt, ex_icmp_ge, ex_icmp_gt, ex_icmp_le, ex_ifc_eq, ex_ifc_ne, ex_ifc_lt, ex_ifc_ge, ex_ifc_gt, ex_ifc_le, lget_cons0, lget_cons, lset1, lclr, isL, List.length_cons, List.length_nil, List.take, List.drop, List.take_zero, List.drop_zero, List.reverse_cons, List.reverse_nil, List.nil_append, List.cons_append, catS, Value.category, tl_some, tl_none, rf_some, rf_none, Int.toNat_natCast, Int.reduceToNat, Nat.reduceAdd, Nat.reduceLT, Nat.reduceLeDiff, Nat.reduceEqDiff, and_true, true_and, and_self, eq_self, reduceIte, false_and, and_false, Bool.false_eq_true, Bool.true_eq_false, or_true, true_or, or_false, false_or, not_true_eq_false, not_false_eq_true, ite_true, ite_false, if_true, if_false, linit, largs, List.replicate, Nat.reduceSub, Nat.sub_self, kim1000000000, kim2, kim1, ki0, ki1, ki2, ki3, ki4, ki5, ki6, ki7, ki8, ki9, ki10, ki12, ki15, ki16, ki20, ki24, ki30, ki32, ki33, ki38, ki40, ki41, ki42, ki43, ki44, ki45, ki46, ki47, ki48, ki50, ki52, ki57, ki58, ki59, ki60, ki61, ki62, ki63, ki91, ki93, ki97, ki99, ki100, ki102, ki108, ki109, ki110, ki111, ki116, ki119, ki120, ki121, ki124, ki128, ki200, ki240, ki255, ki480, ki680, ki999, ki1000, ki7776, ki252645135, ki858993459, ki1431655765, klm1000000000, klm1000000, klm1, kl0, kl1, kl2, kl3, kl4, kl5, kl12, kl60, kl99, kl999, kl1000, kl1000000, kl1000000000, kl4294967295, kl1442695040888963407, kl6364136223846793005, hK_sI, hN_sI, hI_sI, hL_sI, hR_sI, hZ_sI, hC_sI, hS_sI, hK_sL, hN_sL, hI_sL, hL_sL, hR_sL, hZ_sL, hC_sL, hS_sL, hK_sR, hN_sR, hI_sR, hL_sR, hR_sR, hZ_sR, hC_sR, hS_sR, hK_sA, hN_sA, hI_sA, hL_sA, hR_sA, hK_sLA, hN_sLA, hI_sLA, hL_sLA, hR_sLA, up2_at, vu_at, decide_true, decide_false, Bool.false_and, Bool.true_and, Bool.and_true, Bool.and_false, nI_ltN, nI_leN, nI_eqN, nI_eq0, nI_lt0N, nI_le0N, nI_gt0N, nI_le00N, nI_add, nI_mul, bB_0, bB_n, d_le, d_nle, d_lt, d_nlt, d_eq, d_ne, u_k0, u_k1, u_k4, u_k5, u_k7, u_k8, u_k11, u_k14, u_k21, u_k24, u_k33, u_k36, u_k37, u_k41, u_k45, u_k55, u_k66, u_k68, u_k70, u_k72, u_k74, b107_3, a1, u_gI74, u_gL74, u_pL74, u_pI74, u_pZa74, u_pZb74, u_pZc74, u_pR74, u_gD74, u_rf74_1, u_rf74_2, u_rf74_3, u_rf74_4, u_rf74_15, u_rf74_16, u_rf74_18, u_rf74_19, u_rf74_21, u_rf74_22, u_rf74_23, u_rf74_24, u_rf74_25, u_rf74_26, u_rf74_27, u_rf74_28, u_rf74_29, u_rf74_39, u_rf74_41, u_rf74_42, u_rf74_43, u_rf74_45, u_rf74_46, u_k74]
      exact k
    · have f1 : Fr h1 := w.fr f0 (by decide)
      have k := hQ h1 (s0.tr (w.mn m2)) (fun q => absurd q (by decide)) (fun _ _ => zl)
      unfold fltR at k
      rw [if_neg (by omega)] at k
      simp (disch := first | (simp only [Fr_sI, Fr_sL, Fr_sA, Fr_sLA]; assumption) | assumption | decide | omega | (simp only [List.length_cons, List.length_nil, List.drop_succ_cons, List.drop_zero, catS, Value.category, Nat.reduceAdd, Nat.reduceLT, Nat.reduceLeDiff, Nat.le_refl, and_self, and_true, true_and]; done) | (simp only [hK_sI, hN_sI, hK_sL, hN_sL, hK_sR, hN_sR, hK_sA, hN_sA, hK_sLA, hN_sLA]; first | assumption | omega)) only [ex_iadd, ex_isub, ex_imul, ex_iand, ex_ior, ex_ixor, ex_ishl, ex_ishr, ex_iushr, ex_ladd, ex_lsub, ex_lmul, ex_idiv, ex_irem, ex_ldiv, ex_lrem, ex_lshl, ex_lushr, ex_lcmp, ex_i2l, ex_l2i, ex_i2b, ex_iconst, ex_lconst, ex_null, ex_iload, ex_lload, ex_aload, ex_istore, ex_astore, ex_astoreN, ex_lstore, ex_iinc, ex_dup_int, ex_pop_int, ex_dup_ref, ex_pop_ref, ex_dup2l, ex_dup2ri, ex_pop2, ex_goto, ex_jsr, ex_ifnull, ex_ifnullN, ex_ifnn, ex_ifnnN, ex_calls, ex_callv, ex_ireturn, ex_zB, ex_z0, ex_z1, ex_lreturn, ex_vreturn, ex_obj, ex_icmp_eq, ex_icmp_ne, ex_icmp_lt, ex_icmp_ge, ex_icmp_gt, ex_icmp_le, ex_ifc_eq, ex_ifc_ne, ex_ifc_lt, ex_ifc_ge, ex_ifc_gt, ex_ifc_le, lget_cons0, lget_cons, lset1, lclr, isL, List.length_cons, List.length_nil, List.take, List.drop, List.take_zero, List.drop_zero, List.reverse_cons, List.reverse_nil, List.nil_append, List.cons_append, catS, Value.category, tl_some, tl_none, rf_some, rf_none, Int.toNat_natCast, Int.reduceToNat, Nat.reduceAdd, Nat.reduceLT, Nat.reduceLeDiff, Nat.reduceEqDiff, and_true, true_and, and_self, eq_self, reduceIte, false_and, and_false, Bool.false_eq_true, Bool.true_eq_false, or_true, true_or, or_false, false_or, not_true_eq_false, not_false_eq_true, ite_true, ite_false, if_true, if_false, linit, largs, List.replicate, Nat.reduceSub, Nat.sub_self, kim1000000000, kim2, kim1, ki0, ki1, ki2, ki3, ki4, ki5, ki6, ki7, ki8, ki9, ki10, ki12, ki15, ki16, ki20, ki24, ki30, ki32, ki33, ki38, ki40, ki41, ki42, ki43, ki44, ki45, ki46, ki47, ki48, ki50, ki52, ki57, ki58, ki59, ki60, ki61, ki62, ki63, ki91, ki93, ki97, ki99, ki100, ki102, ki108, ki109, ki110, ki111, ki116, ki119, ki120, ki121, ki124, ki128, ki200, ki240, ki255, ki480, ki680, ki999, ki1000, ki7776, ki252645135, ki858993459, ki1431655765, klm1000000000, klm1000000, klm1, kl0, kl1, kl2, kl3, kl4, kl5, kl12, kl60, kl99, kl999, kl1000, kl1000000, kl1000000000, kl4294967295, kl1442695040888963407, kl6364136223846793005, hK_sI, hN_sI, hI_sI, hL_sI, hR_sI, hZ_sI, hC_sI, hS_sI, hK_sL, hN_sL, hI_sL, hL_sL, hR_sL, hZ_sL, hC_sL, hS_sL, hK_sR, hN_sR, hI_sR, hL_sR, hR_sR, hZ_sR, hC_sR, hS_sR, hK_sA, hN_sA, hI_sA, hL_sA, hR_sA, hK_sLA, hN_sLA, hI_sLA, hL_sLA, hR_sLA, up2_at, vu_at, decide_true, decide_false, Bool.false_and, Bool.true_and, Bool.and_true, Bool.and_false, nI_ltN, nI_leN, nI_eqN, nI_eq0, nI_lt0N, nI_le0N, nI_gt0N, nI_le00N, nI_add, nI_mul, bB_0, bB_n, d_le, d_nle, d_lt, d_nlt, d_eq, d_ne, u_k0, u_k1, u_k4, u_k5, u_k7, u_k8, u_k11, u_k14, u_k21, u_k24, u_k33, u_k36, u_k37, u_k41, u_k45, u_k55, u_k66, u_k68, u_k70, u_k72, u_k74, b107_3, a1, u_gI74, u_gL74, u_pL74, u_pI74, u_pZa74, u_pZb74, u_pZc74, u_pR74, u_gD74, u_rf74_1, u_rf74_2, u_rf74_3, u_rf74_4, u_rf74_15, u_rf74_16, u_rf74_18, u_rf74_19, u_rf74_21, u_rf74_22, u_rf74_23, u_rf74_24, u_rf74_25, u_rf74_26, u_rf74_27, u_rf74_28, u_rf74_29, u_rf74_39, u_rf74_41, u_rf74_42, u_rf74_43, u_rf74_45, u_rf74_46, u_k74]
      exact k
theorem m_fault {x : Int32} (f : Fr h) (xm : XM h 75 0 L tp) (h6 : hI h 74 6 = nI L) (hQ : ∀ h1, Sm sFm h h1 → Q (some (.int (if x = nI 0 then fltL tp L else if x = nI 1 then fltR tp L else -nI 2))) h1) : Ev (D + 820) 107 [.ref 74, .int x] h Q := by
  cases hx : dIn 2 x
  · have q0 : ¬ x = nI 0 := fun z => by rw [z] at hx; exact absurd hx (by decide)
    have q1 : ¬ x = nI 1 := fun z => by rw [z] at hx; exact absurd hx (by decide)
    rw [if_neg q0, if_neg q1] at hQ
    have ein := fun D h Q => @ev_isIn0 D 1 (by decide) x h Q
    rw [hx] at ein
    rw [Ev_body 2 rfl rfl]
    simp (disch := first | (simp only [Fr_sI, Fr_sL, Fr_sA, Fr_sLA]; assumption) | assumption | decide | omega | (simp only [List.length_cons, List.length_nil, List.drop_succ_cons, List.drop_zero, catS, Value.category, Nat.reduceAdd, Nat.reduceLT, Nat.reduceLeDiff, Nat.le_refl, and_self, and_true, true_and]; done) | (simp only [hK_sI, hN_sI, hK_sL, hN_sL, hK_sR, hN_sR, hK_sA, hN_sA, hK_sLA, hN_sLA]; first | assumption | omega)) only [ex_iadd, ex_isub, ex_imul, ex_iand, ex_ior, ex_ixor, ex_ishl, ex_ishr, ex_iushr, ex_ladd, ex_lsub, ex_lmul, ex_idiv, ex_irem, ex_ldiv, ex_lrem, ex_lshl, ex_lushr, ex_lcmp, ex_i2l, ex_l2i, ex_i2b, ex_iconst, ex_lconst, ex_null, ex_iload, ex_lload, ex_aload, ex_istore, ex_astore, ex_astoreN, ex_lstore, ex_iinc, ex_dup_int, ex_pop_int, ex_dup_ref, ex_pop_ref, ex_dup2l, ex_dup2ri, ex_pop2, ex_goto, ex_jsr, ex_ifnull, ex_ifnullN, ex_ifnn, ex_ifnnN, ex_calls, ex_callv, ex_ireturn, ex_zB, ex_z0, ex_z1, ex_lreturn, ex_vreturn, ex_obj, ex_icmp_eq, ex_icmp_ne, ex_icmp_lt, ex_icmp_ge, ex_icmp_gt, ex_icmp_le, ex_ifc_eq, ex_ifc_ne, ex_ifc_lt, ex_ifc_ge, ex_ifc_gt, ex_ifc_le, lget_cons0, lget_cons, lset1, lclr, isL, List.length_cons, List.length_nil, List.take, List.drop, List.take_zero, List.drop_zero, List.reverse_cons, List.reverse_nil, List.nil_append, List.cons_append, catS, Value.category, tl_some, tl_none, rf_some, rf_none, Int.toNat_natCast, Int.reduceToNat, Nat.reduceAdd, Nat.reduceLT, Nat.reduceLeDiff, Nat.reduceEqDiff, and_true, true_and, and_self, eq_self, reduceIte, false_and, and_false, Bool.false_eq_true, Bool.true_eq_false, or_true, true_or, or_false, false_or, not_true_eq_false, not_false_eq_true, ite_true, ite_false, if_true, if_false, linit, largs, List.replicate, Nat.reduceSub, Nat.sub_self, kim1000000000, kim2, kim1, ki0, ki1, ki2, ki3, ki4, ki5, ki6, ki7, ki8, ki9, ki10, ki12, ki15, ki16, ki20, ki24, ki30, ki32, ki33, ki38, ki40, ki41, ki42, ki43, ki44, ki45, ki46, ki47, ki48, ki50, ki52, ki57, ki58, ki59, ki60, ki61, ki62, ki63, ki91, ki93, ki97, ki99, ki100, ki102, ki108, ki109, ki110, ki111, ki116, ki119, ki120, ki121, ki124, ki128, ki200, ki240, ki255, ki480, ki680, ki999, ki1000, ki7776, ki252645135, ki858993459, ki1431655765, klm1000000000, klm1000000, klm1, kl0, kl1, kl2, kl3, kl4, kl5, kl12, kl60, kl99, kl999, kl1000, kl1000000, kl1000000000, kl4294967295, kl1442695040888963407, kl6364136223846793005, hK_sI, hN_sI, hI_sI, hL_sI, hR_sI, hZ_sI, hC_sI, hS_sI, hK_sL, hN_sL, hI_sL, hL_sL, hR_sL, hZ_sL, hC_sL, hS_sL, hK_sR, hN_sR, hI_sR, hL_sR, hR_sR, hZ_sR, hC_sR, hS_sR, hK_sA, hN_sA, hI_sA, hL_sA, hR_sA, hK_sLA, hN_sLA, hI_sLA, hL_sLA, hR_sLA, up2_at, vu_at, decide_true, decide_false, Bool.false_and, Bool.true_and, Bool.and_true, Bool.and_false, nI_ltN, nI_leN, nI_eqN, nI_eq0, nI_lt0N, nI_le0N, nI_gt0N, nI_le00N, nI_add, nI_mul, bB_0, bB_n, d_le, d_nle, d_lt, d_nlt, d_eq, d_ne, u_k0, u_k1, u_k4, u_k5, u_k7, u_k8, u_k11, u_k14, u_k21, u_k24, u_k33, u_k36, u_k37, u_k41, u_k45, u_k55, u_k66, u_k68, u_k70, u_k72, u_k74, b107_0, ein, u_gI74, u_gL74, u_pL74, u_pI74, u_pZa74, u_pZb74, u_pZc74, u_pR74, u_gD74, u_rf74_1, u_rf74_2, u_rf74_3, u_rf74_4, u_rf74_15, u_rf74_16, u_rf74_18, u_rf74_19, u_rf74_21, u_rf74_22, u_rf74_23, u_rf74_24, u_rf74_25, u_rf74_26, u_rf74_27, u_rf74_28, u_rf74_29, u_rf74_39, u_rf74_41, u_rf74_42, u_rf74_43, u_rf74_45, u_rf74_46, u_k74]
    exact hQ _ ((Sm.rf _ h).wI (a := 74) _ rfl)
  · refine m_faultX f xm h6 hx (fun h1 w _ _ => ?_)
    have k := hQ h1 w
    obtain ⟨j, hj, rfl⟩ := dIn_get (by decide) hx
    rcases (show j = 0 ∨ j = 1 by omega) with q | q
    · subst q
      exact k
    · subst q
      exact k
end
