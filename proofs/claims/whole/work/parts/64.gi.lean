/-! given. -/
theorem al_fix {K : Nat → Nat} {W : Nat → Nat → Nat} {g : FV} {l x : Nat} : ∀ (ds : List Nat), l ∉ ds → ∀ φ, al K W ds (fun ψ => g ψ * b01 (decide (ψ l = x))) φ = al K W ds g φ * b01 (decide (φ l = x)) := by
  intro ds
  induction ds with
  | nil => exact fun _ φ => rfl
  | cons d ds ih =>
    intro hl φ
    rw [List.mem_cons, not_or] at hl
    simp only [al, av]
    rw [← sm_mulR]
    refine sm_congr (fun f hf => ?_)
    rw [ih hl.2, vu_at, if_neg hl.1, Nat.mul_assoc]
theorem al_pick {K : Nat → Nat} {W : Nat → Nat → Nat} {g : FV} {l x : Nat} (hx : x < K l) : ∀ (ds : List Nat), ds.Nodup → l ∈ ds → ∀ φ, al K W ds (fun ψ => g ψ * b01 (decide (ψ l = x))) φ = W l x * al K W (ds.filter (fun d => !decide (d = l))) g (va_up φ l x) := by
  intro ds
  induction ds with
  | nil => intro _ h; cases h
  | cons d ds ih =>
    intro hn hl φ
    rw [List.nodup_cons] at hn
    by_cases q : d = l
    · subst q
      have hfil : (d :: ds).filter (fun e => !decide (e = d)) = ds := by
        rw [List.filter_cons_of_neg (by simp)]
        exact List.filter_eq_self.mpr (fun e he => by
          have : e ≠ d := fun z => hn.1 (z ▸ he)
          simp [this])
      rw [hfil]
      simp only [al, av]
      rw [sm_one hx]
      · rw [al_fix ds hn.1, vu_at, if_pos rfl]
        simp [b01]
      · intro i hi hne
        rw [al_fix ds hn.1, vu_at, if_pos rfl]
        simp [b01, hne]
    · have hfil : (d :: ds).filter (fun e => !decide (e = l)) = d :: ds.filter (fun e => !decide (e = l)) := List.filter_cons_of_pos (by simp [q])
      have hl2 : l ∈ ds := by
        rcases List.mem_cons.mp hl with z | z
        · exact absurd z.symm q
        · exact z
      rw [hfil]
      simp only [al, av]
      rw [← sm_mulL]
      refine sm_congr (fun f hf => ?_)
      rw [ih hn.2 hl2, vu_comm φ q, Nat.mul_left_comm]
section
variable {n : Nat} {cl wt ys to ct : Nat → Nat} {sg : Nat → Nat → Int32} {sh : Nat → Nat → Nat}
theorem fm_kp {t2 c2 : Nat → Nat} {g2 : Nat → Nat → Int32} {w2 : Nat → Nat → Nat} {X : Nat → Int32} (n5 : n ≤ 5) (kp2 : KP (6 * n) wt X t2 c2 g2 w2) : faceMap n k6 (wtF wt) c2 w2 (fun l f => t2 (6 * l + f)) := by
  obtain ⟨a1, a2, a3, a4, a5⟩ := kp2
  exact fun l hl => ⟨fun f hf hw => (a2 l (by omega) f hf (by have : f < 6 := hf; omega) hw).1, fun j hj => by
    rw [a3 l (by omega) j hj]
    refine sm_congr (fun f hf => ?_)
    have : f < 6 := hf
    exact if_cgr ⟨fun q => q.2, fun q => ⟨by omega, q⟩⟩⟩
theorem pick_ratio {t2 c2 : Nat → Nat} {g2 : Nat → Nat → Int32} {w2 : Nat → Nat → Nat} {X : Nat → Int32} {gK gF : FV} {l f : Nat} (n5 : n ≤ 5) (kp2 : KP (6 * n) wt X t2 c2 g2 w2) (hg : ∀ φ, gdF n k6 (wtF wt) [] φ → gF φ = gK (tF (fun l f => t2 (6 * l + f)) φ)) (hl : l < n) (hf : f < 6) (hw : wt (6 * l + f) ≠ 0) (φ0 : Nat → Nat) : ∃ R, al k6 (wtF wt) (List.range' 0 n) (fun φ => gF φ * b01 (decide (φ l = f))) φ0 = wt (6 * l + f) * R ∧ al c2 w2 (List.range' 0 n) (fun κ => gK κ * b01 (decide (κ l = t2 (6 * l + f)))) (tF (fun l f => t2 (6 * l + f)) φ0) = w2 l (t2 (6 * l + f)) * R := by
  have hm2 := fm_kp n5 kp2
  obtain ⟨a1, a2, a3, a4, a5⟩ := kp2
  have hk := (a2 l (by omega) f hf (by omega) hw).1
  refine ⟨al k6 (wtF wt) ((List.range' 0 n).filter (fun d => !decide (d = l))) gF (va_up φ0 l f), ?_, ?_⟩
  · exact al_pick (K := k6) (W := wtF wt) hf _ (List.nodup_range' 1) (mem_r hl) φ0
  · rw [al_pick (K := c2) (W := w2) hk _ (List.nodup_range' 1) (mem_r hl)]
    congr 1
    rw [← tF_up (fun l f => t2 (6 * l + f)) φ0 l f]
    refine (al_map hm2 hg _ (fun d hd => r_mem (List.mem_filter.mp hd).1) _ (fun d hd hnd => ?_)).symm
    have e : d = l := by
      by_cases q : d = l
      · exact q
      · exact absurd (List.mem_filter.mpr ⟨mem_r hd, by simp [q]⟩) hnd
    rw [e, vu_at, if_pos rfl]
    exact ⟨hf, hw⟩
theorem TL_KF {a o t e : Nat} (ha : a ≠ 6) : TL n cl wt ys a o t e = al k6 (wtF wt) (List.range' 0 n) (fun φ => KF n k6 (wtF wt) (aiF cl n) φ * b01 (soB cl n ys a o t e φ 0)) (fun _ => 0) := by
  rw [TL, TL_at (a := a) (fun _ => 0) (fun φ g g' => by simp only [soB, if_neg ha])]
theorem frV_mul {w x y p : Nat} (hw : 0 < w) : frV (w * x) (w * y) p = frV x y p := by
  unfold frV
  rw [Nat.gcd_mul_left]
  by_cases h : p = 0
  · rw [if_pos h, if_pos h, Nat.mul_div_mul_left _ _ hw]
  · rw [if_neg h, if_neg h, Nat.mul_div_mul_left _ _ hw]
variable {D : Nat} {h : Hp} {Q : Option Value → Hp → Prop}
/-- in how many ways a die lies so, and it is lawful: by face; the class's by kind -/
def GV (h : Hp) (n : Nat) (cl wt ys : Nat → Nat) (d : Nat) : Prop := ∀ l, l < n → ∀ f, f < 6 → if wt (6 * l + f) = 0 then hI h 59 (6 * l + f) = -nI 1 ∧ TL n cl wt ys 8 l f 0 = 0 else ∃ k s M R, k < 6 ∧ 0 < s ∧ s ≤ 12 ∧ hI h 59 (6 * l + f) = nI k ∧ hL h 64 (6 * l + k) = lN (s * R) ∧ hL h 65 (6 * l + k) = lN (s * M) ∧ s * R ≤ 12 ^ (n + 3) ∧ s * M ≤ 12 ^ (n + 3) ∧ TL n cl wt ys 8 l f 0 = wt (6 * l + f) * R ∧ TL n cl wt ys 9 l f d = wt (6 * l + f) * M
set_option maxHeartbeats 4000000 in
theorem ev_chanceG {d : Nat} (hd6 : d < 6) (c : COK h n cl wt ys) (hQ : ∀ h1 (T : Int64), Sm sCh h h1 → GV h1 n cl wt ys d → Q (some (.long T)) h1) : Ev (D + 37) 34 [.ref 0, .int (nI 7), .int (nI d), .int (nI d)] h Q := by
  have f := c.1.1
  have n5 := c.1.2.1
  rw [Ev_body 4 rfl rfl]
  simp (disch := first | (simp only [Fr_sI, Fr_sL, Fr_sA, Fr_sLA]; assumption) | assumption | decide | omega | (simp only [List.length_cons, List.length_nil, List.drop_succ_cons, List.drop_zero, catS, Value.category, Nat.reduceAdd, Nat.reduceLT, Nat.reduceLeDiff, Nat.le_refl, and_self, and_true, true_and]; done) | (simp only [hK_sI, hN_sI, hK_sL, hN_sL, hK_sR, hN_sR, hK_sA, hN_sA, hK_sLA, hN_sLA]; first | assumption | omega)) only [ex_iadd, ex_isub, ex_imul, ex_iand, ex_ior, ex_ixor, ex_ishl, ex_ishr, ex_iushr, ex_ladd, ex_lsub, ex_lmul, ex_idiv, ex_irem, ex_ldiv, ex_lrem, ex_lshl, ex_lushr, ex_lcmp, ex_i2l, ex_l2i, ex_i2b, ex_iconst, ex_lconst, ex_null, ex_iload, ex_lload, ex_aload, ex_istore, ex_astore, ex_astoreN, ex_lstore, ex_iinc, ex_dup_int, ex_pop_int, ex_dup_ref, ex_pop_ref, ex_dup2l, ex_dup2ri, ex_pop2, ex_goto, ex_jsr, ex_ifnull, ex_ifnullN, ex_ifnn, ex_ifnnN, ex_calls, ex_callv, ex_ireturn, ex_zB, ex_z0, ex_z1, ex_lreturn, ex_vreturn, ex_obj, ex_icmp_eq, ex_icmp_ne, ex_icmp_lt, ex_icmp_ge, ex_icmp_gt, ex_icmp_le, ex_ifc_eq, ex_ifc_ne, ex_ifc_lt, ex_ifc_ge, ex_ifc_gt, ex_ifc_le, lget_cons0, lget_cons, lset1, lclr, isL, List.length_cons, List.length_nil, List.take, List.drop, List.take_zero, List.drop_zero, List.reverse_cons, List.reverse_nil, List.nil_append, List.cons_append, catS, Value.category, tl_some, tl_none, rf_some, rf_none, Int.toNat_natCast, Int.reduceToNat, Nat.reduceAdd, Nat.reduceLT, Nat.reduceLeDiff, Nat.reduceEqDiff, and_true, true_and, and_self, eq_self, reduceIte, false_and, and_false, Bool.false_eq_true, Bool.true_eq_false, or_true, true_or, or_false, false_or, not_true_eq_false, not_false_eq_true, ite_true, ite_false, if_true, if_false, linit, largs, List.replicate, Nat.reduceSub, Nat.sub_self, kim1000000000, kim2, kim1, ki0, ki1, ki2, ki3, ki4, ki5, ki6, ki7, ki8, ki9, ki10, ki12, ki15, ki16, ki20, ki24, ki30, ki32, ki33, ki38, ki40, ki41, ki42, ki43, ki44, ki45, ki46, ki47, ki48, ki50, ki52, ki57, ki58, ki59, ki60, ki61, ki62, ki63, ki91, ki93, ki97, ki99, ki100, ki102, ki108, ki109, ki110, ki111, ki116, ki119, ki120, ki121, ki124, ki128, ki200, ki240, ki255, ki480, ki680, ki999, ki1000, ki7776, ki252645135, ki858993459, ki1431655765, klm1000000000, klm1000000, klm1, kl0, kl1, kl2, kl3, kl4, kl5, kl12, kl60, kl99, kl999, kl1000, kl1000000, kl1000000000, kl4294967295, kl1442695040888963407, kl6364136223846793005, hK_sI, hN_sI, hI_sI, hL_sI, hR_sI, hZ_sI, hC_sI, hS_sI, hK_sL, hN_sL, hI_sL, hL_sL, hR_sL, hZ_sL, hC_sL, hS_sL, hK_sR, hN_sR, hI_sR, hL_sR, hR_sR, hZ_sR, hC_sR, hS_sR, hK_sA, hN_sA, hI_sA, hL_sA, hR_sA, hK_sLA, hN_sLA, hI_sLA, hL_sLA, hR_sLA, up2_at, vu_at, decide_true, decide_false, Bool.false_and, Bool.true_and, Bool.and_true, Bool.and_false, nI_ltN, nI_leN, nI_eqN, nI_eq0, nI_lt0N, nI_le0N, nI_gt0N, nI_le00N, nI_add, nI_mul, bB_0, bB_n, d_le, d_nle, d_lt, d_nlt, d_eq, d_ne, u_k0, u_k1, u_k4, u_k5, u_k7, u_k8, u_k11, u_k14, u_k21, u_k24, u_k33, u_k36, u_k37, u_k41, u_k45, u_k55, u_k66, u_k68, u_k70, u_k72, u_k74, b34_0, u_gI0, u_pI0, u_pZa0, u_pZb0, u_pZc0, u_rf0_0, u_rf0_1, u_rf0_3, u_rf0_4, u_rf0_5, u_rf0_6, u_rf0_7, u_rf0_8, u_rf0_9, u_rf0_11, u_rf0_12, u_rf0_13, u_rf0_14, u_rf0_15, u_k0]
  refine ev_load (D := D + 32) c.1 (fun h1 s1 t1 => ?_)
  have f1 := t1.1
  simp (disch := first | (simp only [Fr_sI, Fr_sL, Fr_sA, Fr_sLA]; assumption) | assumption | decide | omega | (simp only [List.length_cons, List.length_nil, List.drop_succ_cons, List.drop_zero, catS, Value.category, Nat.reduceAdd, Nat.reduceLT, Nat.reduceLeDiff, Nat.le_refl, and_self, and_true, true_and]; done) | (simp only [hK_sI, hN_sI, hK_sL, hN_sL, hK_sR, hN_sR, hK_sA, hN_sA, hK_sLA, hN_sLA]; first | assumption | omega)) only [ex_iadd, ex_isub, ex_imul, ex_iand, ex_ior, ex_ixor, ex_ishl, ex_ishr, ex_iushr, ex_ladd, ex_lsub, ex_lmul, ex_idiv, ex_irem, ex_ldiv, ex_lrem, ex_lshl, ex_lushr, ex_lcmp, ex_i2l, ex_l2i, ex_i2b, ex_iconst, ex_lconst, ex_null, ex_iload, ex_lload, ex_aload, ex_istore, ex_astore, ex_astoreN, ex_lstore, ex_iinc, ex_dup_int, ex_pop_int, ex_dup_ref, ex_pop_ref, ex_dup2l, ex_dup2ri, ex_pop2, ex_goto, ex_jsr, ex_ifnull, ex_ifnullN, ex_ifnn, ex_ifnnN, ex_calls, ex_callv, ex_ireturn, ex_zB, ex_z0, ex_z1, ex_lreturn, ex_vreturn, ex_obj, ex_icmp_eq, ex_icmp_ne, ex_icmp_lt, ex_icmp_ge, ex_icmp_gt, ex_icmp_le, ex_ifc_eq, ex_ifc_ne, ex_ifc_lt, ex_ifc_ge, ex_ifc_gt, ex_ifc_le, lget_cons0, lget_cons, lset1, lclr, isL, List.length_cons, List.length_nil, List.take, List.drop, List.take_zero, List.drop_zero, List.reverse_cons, List.reverse_nil, List.nil_append, List.cons_append, catS, Value.category, tl_some, tl_none, rf_some, rf_none, Int.toNat_natCast, Int.reduceToNat, Nat.reduceAdd, Nat.reduceLT, Nat.reduceLeDiff, Nat.reduceEqDiff, and_true, true_and, and_self, eq_self, reduceIte, false_and, and_false, Bool.false_eq_true, Bool.true_eq_false, or_true, true_or, or_false, false_or, not_true_eq_false, not_false_eq_true, ite_true, ite_false, if_true, if_false, linit, largs, List.replicate, Nat.reduceSub, Nat.sub_self, kim1000000000, kim2, kim1, ki0, ki1, ki2, ki3, ki4, ki5, ki6, ki7, ki8, ki9, ki10, ki12, ki15, ki16, ki20, ki24, ki30, ki32, ki33, ki38, ki40, ki41, ki42, ki43, ki44, ki45, ki46, ki47, ki48, ki50, ki52, ki57, ki58, ki59, ki60, ki61, ki62, ki63, ki91, ki93, ki97, ki99, ki100, ki102, ki108, ki109, ki110, ki111, ki116, ki119, ki120, ki121, ki124, ki128, ki200, ki240, ki255, ki480, ki680, ki999, ki1000, ki7776, ki252645135, ki858993459, ki1431655765, klm1000000000, klm1000000, klm1, kl0, kl1, kl2, kl3, kl4, kl5, kl12, kl60, kl99, kl999, kl1000, kl1000000, kl1000000000, kl4294967295, kl1442695040888963407, kl6364136223846793005, hK_sI, hN_sI, hI_sI, hL_sI, hR_sI, hZ_sI, hC_sI, hS_sI, hK_sL, hN_sL, hI_sL, hL_sL, hR_sL, hZ_sL, hC_sL, hS_sL, hK_sR, hN_sR, hI_sR, hL_sR, hR_sR, hZ_sR, hC_sR, hS_sR, hK_sA, hN_sA, hI_sA, hL_sA, hR_sA, hK_sLA, hN_sLA, hI_sLA, hL_sLA, hR_sLA, up2_at, vu_at, decide_true, decide_false, Bool.false_and, Bool.true_and, Bool.and_true, Bool.and_false, nI_ltN, nI_leN, nI_eqN, nI_eq0, nI_lt0N, nI_le0N, nI_gt0N, nI_le00N, nI_add, nI_mul, bB_0, bB_n, d_le, d_nle, d_lt, d_nlt, d_eq, d_ne, u_k0, u_k1, u_k4, u_k5, u_k7, u_k8, u_k11, u_k14, u_k21, u_k24, u_k33, u_k36, u_k37, u_k41, u_k45, u_k55, u_k66, u_k68, u_k70, u_k72, u_k74, b34_1, b34_3, u_gI0, u_pI0, u_pZa0, u_pZb0, u_pZc0, u_rf0_0, u_rf0_1, u_rf0_3, u_rf0_4, u_rf0_5, u_rf0_6, u_rf0_7, u_rf0_8, u_rf0_9, u_rf0_11, u_rf0_12, u_rf0_13, u_rf0_14, u_rf0_15, u_k0]
  refine ev_toss (D := D + 3) true t1 c.2.2 (fun h2 to ct sg sh s2 tt => ?_)
  have t2 : TW h2 n cl wt ys := t1.sm s2 (by decide) rfl (fun _ => rfl) (fun _ => rfl) (fun _ => rfl)
  have f2 := t2.1
  simp (disch := first | (simp only [Fr_sI, Fr_sL, Fr_sA, Fr_sLA]; assumption) | assumption | decide | omega | (simp only [List.length_cons, List.length_nil, List.drop_succ_cons, List.drop_zero, catS, Value.category, Nat.reduceAdd, Nat.reduceLT, Nat.reduceLeDiff, Nat.le_refl, and_self, and_true, true_and]; done) | (simp only [hK_sI, hN_sI, hK_sL, hN_sL, hK_sR, hN_sR, hK_sA, hN_sA, hK_sLA, hN_sLA]; first | assumption | omega)) only [ex_iadd, ex_isub, ex_imul, ex_iand, ex_ior, ex_ixor, ex_ishl, ex_ishr, ex_iushr, ex_ladd, ex_lsub, ex_lmul, ex_idiv, ex_irem, ex_ldiv, ex_lrem, ex_lshl, ex_lushr, ex_lcmp, ex_i2l, ex_l2i, ex_i2b, ex_iconst, ex_lconst, ex_null, ex_iload, ex_lload, ex_aload, ex_istore, ex_astore, ex_astoreN, ex_lstore, ex_iinc, ex_dup_int, ex_pop_int, ex_dup_ref, ex_pop_ref, ex_dup2l, ex_dup2ri, ex_pop2, ex_goto, ex_jsr, ex_ifnull, ex_ifnullN, ex_ifnn, ex_ifnnN, ex_calls, ex_callv, ex_ireturn, ex_zB, ex_z0, ex_z1, ex_lreturn, ex_vreturn, ex_obj, ex_icmp_eq, ex_icmp_ne, ex_icmp_lt, ex_icmp_ge, ex_icmp_gt, ex_icmp_le, ex_ifc_eq, ex_ifc_ne, ex_ifc_lt, ex_ifc_ge, ex_ifc_gt, ex_ifc_le, lget_cons0, lget_cons, lset1, lclr, isL, List.length_cons, List.length_nil, List.take, List.drop, List.take_zero, List.drop_zero, List.reverse_cons, List.reverse_nil, List.nil_append, List.cons_append, catS, Value.category, tl_some, tl_none, rf_some, rf_none, Int.toNat_natCast, Int.reduceToNat, Nat.reduceAdd, Nat.reduceLT, Nat.reduceLeDiff, Nat.reduceEqDiff, and_true, true_and, and_self, eq_self, reduceIte, false_and, and_false, Bool.false_eq_true, Bool.true_eq_false, or_true, true_or, or_false, false_or, not_true_eq_false, not_false_eq_true, ite_true, ite_false, if_true, if_false, linit, largs, List.replicate, Nat.reduceSub, Nat.sub_self, kim1000000000, kim2, kim1, ki0, ki1, ki2, ki3, ki4, ki5, ki6, ki7, ki8, ki9, ki10, ki12, ki15, ki16, ki20, ki24, ki30, ki32, ki33, ki38, ki40, ki41, ki42, ki43, ki44, ki45, ki46, ki47, ki48, ki50, ki52, ki57, ki58, ki59, ki60, ki61, ki62, ki63, ki91, ki93, ki97, ki99, ki100, ki102, ki108, ki109, ki110, ki111, ki116, ki119, ki120, ki121, ki124, ki128, ki200, ki240, ki255, ki480, ki680, ki999, ki1000, ki7776, ki252645135, ki858993459, ki1431655765, klm1000000000, klm1000000, klm1, kl0, kl1, kl2, kl3, kl4, kl5, kl12, kl60, kl99, kl999, kl1000, kl1000000, kl1000000000, kl4294967295, kl1442695040888963407, kl6364136223846793005, hK_sI, hN_sI, hI_sI, hL_sI, hR_sI, hZ_sI, hC_sI, hS_sI, hK_sL, hN_sL, hI_sL, hL_sL, hR_sL, hZ_sL, hC_sL, hS_sL, hK_sR, hN_sR, hI_sR, hL_sR, hR_sR, hZ_sR, hC_sR, hS_sR, hK_sA, hN_sA, hI_sA, hL_sA, hR_sA, hK_sLA, hN_sLA, hI_sLA, hL_sLA, hR_sLA, up2_at, vu_at, decide_true, decide_false, Bool.false_and, Bool.true_and, Bool.and_true, Bool.and_false, nI_ltN, nI_leN, nI_eqN, nI_eq0, nI_lt0N, nI_le0N, nI_gt0N, nI_le00N, nI_add, nI_mul, bB_0, bB_n, d_le, d_nle, d_lt, d_nlt, d_eq, d_ne, u_k0, u_k1, u_k4, u_k5, u_k7, u_k8, u_k11, u_k14, u_k21, u_k24, u_k33, u_k36, u_k37, u_k41, u_k45, u_k55, u_k66, u_k68, u_k70, u_k72, u_k74, u_gI0, u_pI0, u_pZa0, u_pZb0, u_pZc0, u_rf0_0, u_rf0_1, u_rf0_3, u_rf0_4, u_rf0_5, u_rf0_6, u_rf0_7, u_rf0_8, u_rf0_9, u_rf0_11, u_rf0_12, u_rf0_13, u_rf0_14, u_rf0_15, u_k0]
  have hq : askQ n 7 d d 0 := by unfold askQ; omega
  have hc60 : ∀ j, j < 30 → cl j ≤ 60 := fun j hj => (t2.2.2.2.1 j hj).2
  refine ev_ask (D := D + 20) (e := 0) hq t2 c.2.1 tt c.2.2 (fun h3 tt2 c2 g2 w2 s3 kp2 e55 hcs => ?_)
  simp (disch := first | (simp only [Fr_sI, Fr_sL, Fr_sA, Fr_sLA]; assumption) | assumption | decide | omega | (simp only [List.length_cons, List.length_nil, List.drop_succ_cons, List.drop_zero, catS, Value.category, Nat.reduceAdd, Nat.reduceLT, Nat.reduceLeDiff, Nat.le_refl, and_self, and_true, true_and]; done) | (simp only [hK_sI, hN_sI, hK_sL, hN_sL, hK_sR, hN_sR, hK_sA, hN_sA, hK_sLA, hN_sLA]; first | assumption | omega)) only [ex_iadd, ex_isub, ex_imul, ex_iand, ex_ior, ex_ixor, ex_ishl, ex_ishr, ex_iushr, ex_ladd, ex_lsub, ex_lmul, ex_idiv, ex_irem, ex_ldiv, ex_lrem, ex_lshl, ex_lushr, ex_lcmp, ex_i2l, ex_l2i, ex_i2b, ex_iconst, ex_lconst, ex_null, ex_iload, ex_lload, ex_aload, ex_istore, ex_astore, ex_astoreN, ex_lstore, ex_iinc, ex_dup_int, ex_pop_int, ex_dup_ref, ex_pop_ref, ex_dup2l, ex_dup2ri, ex_pop2, ex_goto, ex_jsr, ex_ifnull, ex_ifnullN, ex_ifnn, ex_ifnnN, ex_calls, ex_callv, ex_ireturn, ex_zB, ex_z0, ex_z1, ex_lreturn, ex_vreturn, ex_obj, ex_icmp_eq, ex_icmp_ne, ex_icmp_lt, ex_icmp_ge, ex_icmp_gt, ex_icmp_le, ex_ifc_eq, ex_ifc_ne, ex_ifc_lt, ex_ifc_ge, ex_ifc_gt, ex_ifc_le, lget_cons0, lget_cons, lset1, lclr, isL, List.length_cons, List.length_nil, List.take, List.drop, List.take_zero, List.drop_zero, List.reverse_cons, List.reverse_nil, List.nil_append, List.cons_append, catS, Value.category, tl_some, tl_none, rf_some, rf_none, Int.toNat_natCast, Int.reduceToNat, Nat.reduceAdd, Nat.reduceLT, Nat.reduceLeDiff, Nat.reduceEqDiff, and_true, true_and, and_self, eq_self, reduceIte, false_and, and_false, Bool.false_eq_true, Bool.true_eq_false, or_true, true_or, or_false, false_or, not_true_eq_false, not_false_eq_true, ite_true, ite_false, if_true, if_false, linit, largs, List.replicate, Nat.reduceSub, Nat.sub_self, kim1000000000, kim2, kim1, ki0, ki1, ki2, ki3, ki4, ki5, ki6, ki7, ki8, ki9, ki10, ki12, ki15, ki16, ki20, ki24, ki30, ki32, ki33, ki38, ki40, ki41, ki42, ki43, ki44, ki45, ki46, ki47, ki48, ki50, ki52, ki57, ki58, ki59, ki60, ki61, ki62, ki63, ki91, ki93, ki97, ki99, ki100, ki102, ki108, ki109, ki110, ki111, ki116, ki119, ki120, ki121, ki124, ki128, ki200, ki240, ki255, ki480, ki680, ki999, ki1000, ki7776, ki252645135, ki858993459, ki1431655765, klm1000000000, klm1000000, klm1, kl0, kl1, kl2, kl3, kl4, kl5, kl12, kl60, kl99, kl999, kl1000, kl1000000, kl1000000000, kl4294967295, kl1442695040888963407, kl6364136223846793005, hK_sI, hN_sI, hI_sI, hL_sI, hR_sI, hZ_sI, hC_sI, hS_sI, hK_sL, hN_sL, hI_sL, hL_sL, hR_sL, hZ_sL, hC_sL, hS_sL, hK_sR, hN_sR, hI_sR, hL_sR, hR_sR, hZ_sR, hC_sR, hS_sR, hK_sA, hN_sA, hI_sA, hL_sA, hR_sA, hK_sLA, hN_sLA, hI_sLA, hL_sLA, hR_sLA, up2_at, vu_at, decide_true, decide_false, Bool.false_and, Bool.true_and, Bool.and_true, Bool.and_false, nI_ltN, nI_leN, nI_eqN, nI_eq0, nI_lt0N, nI_le0N, nI_gt0N, nI_le00N, nI_add, nI_mul, bB_0, bB_n, d_le, d_nle, d_lt, d_nlt, d_eq, d_ne, u_k0, u_k1, u_k4, u_k5, u_k7, u_k8, u_k11, u_k14, u_k21, u_k24, u_k33, u_k36, u_k37, u_k41, u_k45, u_k55, u_k66, u_k68, u_k70, u_k72, u_k74]
  refine hQ h3 _ (((s1.mono sCh_1).tr (s2.mono sCh_2)).tr (s3.mono sCh_3)) (fun l hl g hg => ?_)
  obtain ⟨kp, kh, hto, hst, he, hfi⟩ := tt
  have hK8 := TL_KF (n := n) (cl := cl) (wt := wt) (ys := ys) (a := 8) (o := l) (t := g) (e := 0) (by decide)
  have hK9 := TL_KF (n := n) (cl := cl) (wt := wt) (ys := ys) (a := 9) (o := l) (t := g) (e := d) (by decide)
  have s8 : ∀ φ, soB cl n ys 8 l g 0 φ 0 = decide (φ l = g) := fun φ => by simp [soB]
  have s9 : ∀ φ, soB cl n ys 9 l g d φ 0 = (decide (φ l = g) && lwB (hdF cl n ys φ) 0 n d) := fun φ => by simp [soB]
  simp only [s8] at hK8
  simp only [s9] at hK9
  have e1 := e55 (6 * l + g) (by omega)
  by_cases h0 : wt (6 * l + g) = 0
  · rw [if_pos h0] at e1 ⊢
    refine ⟨e1, ?_⟩
    rw [hK8, al_pick (K := k6) (W := wtF wt) hg _ (List.nodup_range' 1) (mem_r hl), show wtF wt l g = 0 from h0, Nat.zero_mul]
  · rw [if_neg h0] at e1 ⊢
    obtain ⟨a1, a2, a3, a4, fs, a5⟩ := kp2
    have kp2 : KP (6 * n) wt (fun c => nI (mX cl n ys 7 d d c)) tt2 c2 g2 w2 := ⟨a1, a2, a3, a4, fs, a5⟩
    have hk := (a2 l (by omega) g hg (by omega) h0).1
    have hc6 := (a1 l (by omega)).1
    have h22 := kp_12 n5 kp2 c.2.2 l hl
    have hs12 := sm_ge (n := 0) (f := w2 l) (c2 l) hk
    rw [h22] at hs12
    have hspos : 0 < w2 l (tt2 (6 * l + g)) := by
      obtain ⟨b1, b2, b3, b4, b5⟩ := a5 l (by omega) _ hk
      rw [a3 l (by omega) _ hk]
      have z1 := sm_ge (n := 0) (f := fun f => if 6 * l + f < 6 * n ∧ tt2 (6 * l + f) = tt2 (6 * l + g) then wt (6 * l + f) else 0) 6 b1
      have z2 : (if 6 * l + fs l (tt2 (6 * l + g)) < 6 * n ∧ tt2 (6 * l + fs l (tt2 (6 * l + g))) = tt2 (6 * l + g) then wt (6 * l + fs l (tt2 (6 * l + g))) else 0) = wt (6 * l + fs l (tt2 (6 * l + g))) := if_pos ⟨b2, b4⟩
      simp only [z2] at z1
      omega
    have hKg : ∀ φ, gdF n k6 (wtF wt) [] φ → KF n k6 (wtF wt) (aiF cl n) φ = KF n k6 (wtF wt) (aiF cl n) (fun l => fs l (tF (fun l f => tt2 (6 * l + f)) φ l)) := fun φ hφ => KF_rsA _ _ (fun j hj => by
      obtain ⟨z1, z2⟩ := hφ j hj (by simp)
      have z1 : φ j < 6 := z1
      have z2 : wt (6 * j + φ j) ≠ 0 := z2
      have z3 := (a2 j (by omega) (φ j) z1 (by omega) z2).1
      obtain ⟨b1, b2, b3, b4, b5⟩ := a5 j (by omega) _ z3
      have z4 := (KP_eq kp2 (by omega) b1 z1 b2 (by omega) b3 z2).mp b4
      have z5 := mX_same (s := 7) (o := d) (t := d) hc60 c.2.1 (by omega) n5 kp j hj _ _ b1 z1 b3 z2 z4
      have z6 := (KP_eq kp (by omega) b1 z1 b2 (by omega) b3 z2).mp z5
      have z7 : aimN (cl (6 * j + fs j (tt2 (6 * j + φ j)))) n = aimN (cl (6 * j + φ j)) n := oI_inj (fun i hi => by have := (aimN_some hi).2; omega) (fun i hi => by have := (aimN_some hi).2; omega) z6
      exact z7.symm)
    have hcs' : ∀ cc, al k6 (wtF wt) (List.range' 0 n) (fun φ => KF n k6 (wtF wt) (aiF cl n) φ * vC n 7 (mtK n 7 d d (fun l k => (g2 l k).toNatClampNeg)) cc (tF (loF tt2) φ)) (fun _ => 0) = al c2 w2 (List.range' 0 n) (fun κ => KF n k6 (wtF wt) (aiF cl n) (fun l => fs l (κ l)) * vC n 7 (mtK n 7 d d (fun l k => (g2 l k).toNatClampNeg)) cc κ) (tF (fun l f => tt2 (6 * l + f)) (fun _ => 0)) := fun cc => al_map (g := fun φ => KF n k6 (wtF wt) (aiF cl n) φ * vC n 7 (mtK n 7 d d (fun l k => (g2 l k).toNatClampNeg)) cc (tF (loF tt2) φ)) (g' := fun κ => KF n k6 (wtF wt) (aiF cl n) (fun l => fs l (κ l)) * vC n 7 (mtK n 7 d d (fun l k => (g2 l k).toNatClampNeg)) cc κ) (kp_fm n5 kp2) (fun ψ hψ => by
      rw [hKg ψ hψ]
      rfl) (List.range' 0 n) (fun d hd => r_mem hd) (fun _ => 0) gd_all
    have hmet : ∀ φ, gdF n k6 (wtF wt) [] φ → lwB (hdF cl n ys φ) 0 n d = mtK n 7 d d (fun l k => (g2 l k).toNatClampNeg) (tF (fun l f => tt2 (6 * l + f)) φ) := fun φ hφ => by
      have hbX : ∀ l f, l < n → f < 6 → mX cl n ys 7 d d (6 * l + f) < 50 + n := by
        intro l f hl hf
        rw [mX, show (6 * l + f) / 6 = l from by omega, show (6 * l + f) % 6 = f from by omega]
        have h1 := setN_50 (c := cl (6 * l + f)) (n := n) (y := ys l) (hc60 _ (by omega)) (c.2.1 l hl) n5
        unfold mnN
        repeat' split
        all_goals omega
      have z0 := met_so (e := 0) (g := 0) hq n5 hc60 c.2.1 (fun l hl => (hφ l hl (by simp)).1)
      have z9 : soB cl n ys 0 d d 0 φ 0 = lwB (hdF cl n ys φ) 0 n d := by simp [soB]
      have z8 : soB cl n ys 0 d d 0 φ 0 = soB cl n ys 0 d d 0 φ 0 := rfl
      rw [← z9, ← z0]
      refine (mtB_congr (fun l hl => heldN_congr (fun l hl => ?_) (fun l hl => ?_) (n + 1) l hl) (by omega)).symm
      · obtain ⟨z1, z2⟩ := hφ l hl (by simp)
        have z3 := (a2 l (by omega) (φ l) z1 (by have : φ l < 6 := z1; omega) z2).2
        have z4 := hbX l (φ l) hl z1
        show (g2 l (tt2 (6 * l + φ l))).toNatClampNeg = _
        rw [z3, nI_clamp (by omega)]
      · obtain ⟨z1, z2⟩ := hφ l hl (by simp)
        have z3 := (a2 l (by omega) (φ l) z1 (by have : φ l < 6 := z1; omega) z2).2
        have z4 := hbX l (φ l) hl z1
        show (g2 l (tt2 (6 * l + φ l))).toNatClampNeg < _
        rw [z3, nI_clamp (by omega)]
        exact z4
    obtain ⟨R, r1, r2⟩ := pick_ratio (gK := fun κ => KF n k6 (wtF wt) (aiF cl n) (fun l => fs l (κ l))) (gF := fun φ => KF n k6 (wtF wt) (aiF cl n) φ) n5 kp2 hKg hl hg h0 (fun _ => 0)
    obtain ⟨M, m1, m2⟩ := pick_ratio (gK := fun κ => KF n k6 (wtF wt) (aiF cl n) (fun l => fs l (κ l)) * b01 (mtK n 7 d d (fun l k => (g2 l k).toNatClampNeg) κ)) (gF := fun φ => KF n k6 (wtF wt) (aiF cl n) φ * b01 (lwB (hdF cl n ys φ) 0 n d)) n5 kp2 (fun φ hφ => by rw [hKg φ hφ, hmet φ hφ]) hl hg h0 (fun _ => 0)
    have hcell : (6 * l + tt2 (6 * l + g)) / 6 = l ∧ (6 * l + tt2 (6 * l + g)) % 6 = tt2 (6 * l + g) := by omega
    have hall : hL h3 64 (6 * l + tt2 (6 * l + g)) = lN (w2 l (tt2 (6 * l + g)) * R) := by
      rw [(hcs.2 _ (by omega)).1]
      dsimp only
      rw [hcs', ← r2]
      refine congrArg lN (congrArg (fun g => al c2 w2 (List.range' 0 n) g (tF (fun l f => tt2 (6 * l + f)) fun _ => 0)) (funext (fun κ => ?_)))
      rw [vC, if_neg (by omega), if_pos ⟨rfl, by omega⟩, show 1 + (6 * l + tt2 (6 * l + g)) - 1 = 6 * l + tt2 (6 * l + g) by omega, hcell.1, hcell.2]
      congr 2
      apply decide_eq_decide.mpr
      exact ⟨fun z => z.2, fun z => ⟨hl, z⟩⟩
    have hmt : hL h3 65 (6 * l + tt2 (6 * l + g)) = lN (w2 l (tt2 (6 * l + g)) * M) := by
      rw [(hcs.2 _ (by omega)).2]
      dsimp only
      rw [hcs', ← m2]
      refine congrArg lN (congrArg (fun g => al c2 w2 (List.range' 0 n) g (tF (fun l f => tt2 (6 * l + f)) fun _ => 0)) (funext (fun κ => ?_)))
      rw [vC, if_neg (by omega), if_neg (by omega), if_pos ⟨rfl, by omega⟩, show 31 + (6 * l + tt2 (6 * l + g)) - 31 = 6 * l + tt2 (6 * l + g) by omega, hcell.1, hcell.2, Nat.mul_assoc]
      congr 1
      cases mtK n 7 d d (fun l k => (g2 l k).toNatClampNeg) κ <;> by_cases z : κ l = tt2 (6 * l + g) <;> simp [b01, hl, z]
    have htot : al c2 w2 (List.range' 0 n) (fun κ => KF n k6 (wtF wt) (aiF cl n) (fun l => fs l (κ l)) * 1) (tF (fun l f => tt2 (6 * l + f)) (fun _ => 0)) = 12 ^ (n + 3) := by
      rw [← al_map (g := fun φ => KF n k6 (wtF wt) (aiF cl n) φ * 1) (g' := fun κ => KF n k6 (wtF wt) (aiF cl n) (fun l => fs l (κ l)) * 1) (kp_fm n5 kp2) (fun ψ hψ => by
        rw [hKg ψ hψ]) (List.range' 0 n) (fun d hd => r_mem hd) (fun _ => 0) gd_all, ← tally_KF (n := n) (K := k6) (W := wtF wt) (A := aiF cl n) (fun l f d _ h => (aimN_some h).2) (fun _ => 1) (fun _ => 0)]
      rw [show dfs n k6 (wtF wt) (aiF cl n) 3 (fun _ => false) (fun _ _ => 1) = (fun _ => 12 ^ 3) from funext (fun ψ => dfs_1 (n := n) (K := k6) (W := wtF wt) (B := aiF cl n) (fun l f d hl h => (aimN_some h).2) (fun l hl => c.2.2 l hl) 3 (fun _ => false) ψ), al_const (n := n) (K := k6) (fun l hl => c.2.2 l hl) _ _ (fun d hd => r_mem hd), List.length_range', ← Nat.pow_add]
    have b01le : ∀ b, b01 b ≤ 1 := fun b => by cases b <;> decide
    refine ⟨tt2 (6 * l + g), w2 l (tt2 (6 * l + g)), M, R, by omega, hspos, hs12, e1, hall, hmt, ?_, ?_, ?_, ?_⟩
    · rw [← r2, ← htot]
      exact al_le (fun κ => Nat.mul_le_mul_left _ (b01le _)) _ _
    · rw [← m2, ← htot]
      exact al_le (fun κ => by
        rw [Nat.mul_assoc]
        exact Nat.mul_le_mul_left _ (Nat.mul_le_mul (b01le _) (b01le _))) _ _
    · rw [hK8]; exact r1
    · rw [hK9, ← m1]
      congr 1
      funext φ
      rw [Nat.mul_assoc]
      congr 1
      cases lwB (hdF cl n ys φ) 0 n d <;> by_cases z : φ l = g <;> simp [b01, z]
end
