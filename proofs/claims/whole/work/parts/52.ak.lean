/-! The class's answer to a question of so or not. -/
def sAk (a j : Nat) : Bool := a == 52 || a == 53 || a == 54 || a == 55 || a == 56 || a == 57 || a == 58 || a == 59 || a == 60 || a == 61 || (a == 50 && (j == 9 || j == 10 || j == 11 || j == 12 || j == 13 || j == 14))
theorem sAk_1 : ∀ a j, sAk a j = false → sKi a j = false := fun a j h => by
  simp only [sAk, sKi, Bool.or_eq_false_iff, Bool.and_eq_false_iff, beq_eq_false_iff_ne, ne_eq] at h ⊢
  omega
theorem sAk_2 : ∀ a j, sAk a j = false → sLy a j = false := fun a j h => by
  simp only [sAk, sLy, sLf, Bool.or_eq_false_iff, Bool.and_eq_false_iff, beq_eq_false_iff_ne, ne_eq] at h ⊢
  omega
section
variable {n : Nat} {cl wt ys to ct : Nat → Nat} {sg : Nat → Nat → Int32} {sh : Nat → Nat → Nat} {A : Nat → Nat → Option Nat}
/-- faces of one kind are of one type -/
theorem mX_same {s o t : Nat} (hc : ∀ j, j < 30 → cl j ≤ 60) (hy : ∀ l, l < n → ys l < 40) (ht : t < 40) (n5 : n ≤ 5) (kp : KP (6 * n) wt (fun c => oI (aimN (cl c) n)) to ct sg sh) : ∀ l, l < n → ∀ f f', f < 6 → f' < 6 → wt (6 * l + f) ≠ 0 → wt (6 * l + f') ≠ 0 → nI (mX cl n ys s o t (6 * l + f)) = nI (mX cl n ys s o t (6 * l + f')) → to (6 * l + f) = to (6 * l + f') := by
  intro l hl f f' hf hf' hw hw' he
  have hmx : ∀ f, f < 6 → mX cl n ys s o t (6 * l + f) = mnN s o t (setN (cl (6 * l + f)) n (ys l)) f := fun f hf => by
    rw [mX, show (6 * l + f) / 6 = l from by omega, show (6 * l + f) % 6 = f from by omega]
  have hset : ∀ f, f < 6 → setN (cl (6 * l + f)) n (ys l) < 50 + n := fun f hf => setN_50 (hc _ (by omega)) (hy l hl) n5
  have hb : ∀ f, f < 6 → mnN s o t (setN (cl (6 * l + f)) n (ys l)) f < 100 := by
    intro f hf
    have := hset f hf
    unfold mnN
    repeat' split
    all_goals omega
  rw [hmx f hf, hmx f' hf', nI_eq (by have := hb f hf; omega) (by have := hb f' hf'; omega)] at he
  by_cases s6 : s = 6
  · rw [mnN, if_pos s6, mnN, if_pos s6] at he
    rw [he]
  · have haim : ∀ f, f < 6 → aimN (cl (6 * l + f)) n = (if 40 ≤ mnN s o t (setN (cl (6 * l + f)) n (ys l)) f ∧ mnN s o t (setN (cl (6 * l + f)) n (ys l)) f < 50 then some (mnN s o t (setN (cl (6 * l + f)) n (ys l)) f - 40) else none) := by
      intro f hf
      have h1 := hc (6 * l + f) (by omega)
      have h2 := hy l hl
      have h40 : ∀ c, 40 ≤ c → mnN s o t c f = c := fun c hc => by rw [mnN, if_neg s6, if_pos hc]
      have hlt : ∀ c, c < 40 → mnN s o t c f < 40 := by
        intro c hc
        unfold mnN
        repeat' split
        all_goals omega
      unfold aimN
      by_cases q : 40 ≤ cl (6 * l + f) ∧ cl (6 * l + f) < 50 ∧ cl (6 * l + f) - 40 < n
      · have e : setN (cl (6 * l + f)) n (ys l) = cl (6 * l + f) := by
          rw [setN, if_neg (by omega), if_neg (by omega), if_pos q.1, if_pos q.2.2]
        rw [if_pos q, e, h40 _ q.1, if_pos ⟨q.1, q.2.1⟩]
      · rw [if_neg q]
        have e : setN (cl (6 * l + f)) n (ys l) < 40 ∨ 50 ≤ setN (cl (6 * l + f)) n (ys l) := by
          unfold setN
          repeat' split
          all_goals omega
        rcases e with e | e
        · have := hlt _ e
          rw [if_neg (by omega)]
        · rw [h40 _ (by omega), if_neg (by omega)]
    obtain ⟨a1, a2, a3, a4, a5⟩ := kp
    obtain ⟨b1, b2⟩ := a2 l (by omega) f hf (by omega) hw
    obtain ⟨b3, b4⟩ := a2 l (by omega) f' hf' (by omega) hw'
    refine a4 l (by omega) _ _ b1 b3 ?_
    rw [b2, b4]
    show oI (aimN (cl (6 * l + f)) n) = oI (aimN (cl (6 * l + f')) n)
    rw [haim f hf, haim f' hf', he]
/-- a tally over kinds is the tally over faces -/
theorem ask_tally {t2 c2 : Nat → Nat} {g2 : Nat → Nat → Int32} {w2 : Nat → Nat → Nat} {X : Nat → Int32} {tk : Nat → Nat → Nat} {fK fF : (Nat → Nat) → Nat} (n5 : n ≤ 5) (kp2 : KP (6 * n) wt X t2 c2 g2 w2) (htk : ∀ l, l < n → ∀ f, f < 6 → wt (6 * l + f) ≠ 0 → tk l (t2 (6 * l + f)) = to (6 * l + f)) (hfm : faceMap n k6 (wtF wt) ct sh (fun l f => to (6 * l + f))) (hai : ∀ l f, l < n → f < 6 → wtF wt l f ≠ 0 → aiF cl n l f = A l (to (6 * l + f))) (hf : ∀ φ, gdF n k6 (wtF wt) [] φ → fK (tF (fun l f => t2 (6 * l + f)) φ) = fF φ) (φ0 : Nat → Nat) : al c2 w2 (List.range' 0 n) (fun κ => KK n ct sh A (tF tk κ) * fK κ) (tF (fun l f => t2 (6 * l + f)) φ0) = al k6 (wtF wt) (List.range' 0 n) (dfs n k6 (wtF wt) (aiF cl n) 3 (fun _ => false) (fun φ _ => fF φ)) φ0 := by
  obtain ⟨a1, a2, a3, a4, a5⟩ := kp2
  have hm2 : faceMap n k6 (wtF wt) c2 w2 (fun l f => t2 (6 * l + f)) := fun l hl => ⟨fun f hf hw => (a2 l (by omega) f hf (by have : f < 6 := hf; omega) hw).1, fun j hj => by
    rw [a3 l (by omega) j hj]
    refine sm_congr (fun f hf => ?_)
    have : f < 6 := hf
    exact if_cgr ⟨fun q => q.2, fun q => ⟨by omega, q⟩⟩⟩
  rw [tally_eq (A1 := aiF cl n) hfm (fun l f d hl h => (aimN_some h).2) (fun l f hl hf hw => hai l f hl hf hw) _ φ0]
  rw [← al_sm]
  refine (al_map hm2 (fun ψ hψ => ?_) (List.range' 0 n) (fun d hd => r_mem hd) φ0 gd_all).symm
  rw [hf ψ hψ, sm_mulR, KK]
  congr 1
  refine sm_congr (fun g _ => KG_resp g _ _ (fun j hj => ?_))
  obtain ⟨z1, z2⟩ := hψ j hj (by simp)
  exact (htk j hj (ψ j) z1 z2).symm
theorem kp_12 {X : Nat → Int32} (n5 : n ≤ 5) (kp : KP (6 * n) wt X to ct sg sh) (hw : ∀ l, l < n → sm 6 (wtF wt l) = 12) : ∀ l, l < n → sm (ct l) (sh l) = 12 := by
  obtain ⟨a1, a2, a3, a4, a5⟩ := kp
  intro l hl
  have h1 := sm_merge (n := 6) (m := ct l) (w := wtF wt l) (G := fun _ => 1) (t := fun f => to (6 * l + f)) (fun f hf hw => (a2 l (by omega) f hf (by omega) hw).1)
  simp only [Nat.mul_one] at h1
  have h2 := hw l hl
  rw [show sm 6 (fun i => wtF wt l i) = sm 6 (wtF wt l) from rfl, h2] at h1
  rw [h1]
  refine sm_congr (fun k hk => ?_)
  rw [a3 l (by omega) k hk]
  exact sm_congr (fun f hf => if_cgr ⟨fun q => q.2, fun q => ⟨by omega, q⟩⟩)
theorem mtB_congr {s o t : Nat} {hd hd' : Nat → Nat} (h : ∀ l, l < n → hd l = hd' l) (on : s = 5 → o < n) : mtB n s o t hd = mtB n s o t hd' := by
  have e : ∀ j, j < n → (fun l => nI (hd l)) (0 + j) = (fun l => nI (hd' l)) (0 + j) := fun j hj => by
    simp only [Nat.zero_add, h j hj]
  unfold mtB
  rw [msB_congr (r := fun l => nI (hd l)) (r' := fun l => nI (hd' l)) e, cnt_congr (r := fun l => nI (hd l)) (r' := fun l => nI (hd' l)) n e, lwB_congr (r := fun l => nI (hd l)) (r' := fun l => nI (hd' l)) e, lwB_congr (r := fun l => nI (hd l)) (r' := fun l => nI (hd' l)) e, cnt_congr (r := fun l => nI (hd l)) (r' := fun l => nI (hd' l)) n e]
  by_cases q : s = 5
  · rw [h o (on q)]
  · simp only [if_neg q]
set_option maxHeartbeats 4000000 in
/-- asked so or not, behind a toss -/
theorem ev_ask {D s o t a e : Nat} {h : Hp} {Q : Option Value → Hp → Prop} (q : askQ n s o t a) (tw : TW h n cl wt ys) (hy40 : ∀ l, l < n → ys l < 40) (tt : TT h n cl wt to ct sg sh A) (hw12 : ∀ l, l < n → sm 6 (wtF wt l) = 12) (φ0 : Nat → Nat) (hQ : ∀ h1 t2 c2 g2 w2 tk, Sm sAk h h1 → KP (6 * n) wt (fun c => nI (mX cl n ys s o t c)) t2 c2 g2 w2 → (∀ c, c < 6 * n → hI h1 55 c = if wt c = 0 then -nI 1 else nI (t2 c)) → (∀ l, l < n → ∀ f, f < 6 → wt (6 * l + f) ≠ 0 → tk l (t2 (6 * l + f)) = to (6 * l + f)) → HCs h1 (fun c => al c2 w2 (List.range' 0 n) (fun κ => KK n ct sh A (tF tk κ) * vC n s (mtK n s o t (fun l k => (g2 l k).toNatClampNeg)) c κ) (tF (fun l f => t2 (6 * l + f)) φ0)) → Q (some (.long (lN (al k6 (wtF wt) (List.range' 0 n) (dfs n k6 (wtF wt) (aiF cl n) 3 (fun _ => false) (fun φ g => b01 (soB cl n ys a o t e φ g))) φ0)))) h1) : Ev (D + 16) 196 [.ref 50, .int (nI s), .int (nI o), .int (nI t)] h Q := by
  obtain ⟨f, n5, hn, hc, hw, hy⟩ := tw
  have tw : TW h n cl wt ys := ⟨f, n5, hn, hc, hw, hy⟩
  obtain ⟨kp, kh, hto, hst, he, hA, h12, hfm, hai, hpos, hAn⟩ := tt
  have hc60 : ∀ j, j < 30 → cl j ≤ 60 := fun j hj => (hc j hj).2
  have s8 : s < 8 := by unfold askQ at q; omega
  have s6 : s ≠ 6 := by unfold askQ at q; omega
  have o60 : o < 60 := by unfold askQ at q; omega
  have t40 : t < 40 := by unfold askQ at q; omega
  have on5 : s = 5 → o < n := by unfold askQ at q; omega
  have hok : askC n s o t := ⟨s8, s6, o60, by omega, on5⟩
  have c1 : ∀ (h : Hp) (Q : Option Value → Hp → Prop), Fr h → _ := fun h Q (f : Fr h) => @ev_clear (D + 13) 60 30 30 h Q (u_k60 f) (u_n60 f) (by decide) (by decide)
  have c2 : ∀ (h : Hp) (Q : Option Value → Hp → Prop), Fr h → _ := fun h Q (f : Fr h) => @ev_clear (D + 13) 61 30 30 h Q (u_k61 f) (u_n61 f) (by decide) (by decide)
  rw [Ev_body 4 rfl rfl]
  simp (disch := first | (simp only [Fr_sI, Fr_sL, Fr_sA, Fr_sLA]; assumption) | assumption | decide | omega | (simp only [List.length_cons, List.length_nil, List.drop_succ_cons, List.drop_zero, catS, Value.category, Nat.reduceAdd, Nat.reduceLT, Nat.reduceLeDiff, Nat.le_refl, and_self, and_true, true_and]; done) | (simp only [hK_sI, hN_sI, hK_sL, hN_sL, hK_sR, hN_sR, hK_sA, hN_sA, hK_sLA, hN_sLA]; first | assumption | omega)) only [ex_iadd, ex_isub, ex_imul, ex_iand, ex_ior, ex_ixor, ex_ishl, ex_ishr, ex_iushr, ex_ladd, ex_lsub, ex_lmul, ex_idiv, ex_irem, ex_ldiv, ex_lrem, ex_lshl, ex_lushr, ex_lcmp, ex_i2l, ex_l2i, ex_i2b, ex_iconst, ex_lconst, ex_null, ex_iload, ex_lload, ex_aload, ex_istore, ex_astore, ex_astoreN, ex_lstore, ex_iinc, ex_dup_int, ex_pop_int, ex_dup_ref, ex_pop_ref, ex_dup2l, ex_dup2ri, ex_pop2, ex_goto, ex_jsr, ex_ifnull, ex_ifnullN, ex_ifnn, ex_ifnnN, ex_calls, ex_callv, ex_ireturn, ex_zB, ex_z0, ex_z1, ex_lreturn, ex_vreturn, ex_obj, ex_icmp_eq, ex_icmp_ne, ex_icmp_lt, ex_icmp_ge, ex_icmp_gt, ex_icmp_le, ex_ifc_eq, ex_ifc_ne, ex_ifc_lt, ex_ifc_ge, ex_ifc_gt, ex_ifc_le, lget_cons0, lget_cons, lset1, lclr, isL, List.length_cons, List.length_nil, List.take, List.drop, List.take_zero, List.drop_zero, List.reverse_cons, List.reverse_nil, List.nil_append, List.cons_append, catS, Value.category, tl_some, tl_none, rf_some, rf_none, Int.toNat_natCast, Int.reduceToNat, Nat.reduceAdd, Nat.reduceLT, Nat.reduceLeDiff, Nat.reduceEqDiff, and_true, true_and, and_self, eq_self, reduceIte, false_and, and_false, Bool.false_eq_true, Bool.true_eq_false, or_true, true_or, or_false, false_or, not_true_eq_false, not_false_eq_true, ite_true, ite_false, if_true, if_false, linit, largs, List.replicate, Nat.reduceSub, Nat.sub_self, kim1000000000, kim2, kim1, ki0, ki1, ki2, ki3, ki4, ki5, ki6, ki7, ki8, ki9, ki10, ki12, ki15, ki16, ki20, ki24, ki30, ki32, ki33, ki38, ki40, ki41, ki42, ki43, ki44, ki45, ki46, ki47, ki48, ki50, ki52, ki57, ki58, ki59, ki60, ki61, ki62, ki63, ki91, ki93, ki97, ki99, ki100, ki102, ki108, ki109, ki110, ki111, ki116, ki119, ki120, ki121, ki124, ki128, ki200, ki240, ki255, ki480, ki680, ki999, ki1000, ki7776, ki252645135, ki858993459, ki1431655765, klm1000000000, klm1000000, klm1, kl0, kl1, kl2, kl3, kl4, kl5, kl12, kl60, kl99, kl999, kl1000, kl1000000, kl1000000000, kl4294967295, kl1442695040888963407, kl6364136223846793005, hK_sI, hN_sI, hI_sI, hL_sI, hR_sI, hZ_sI, hC_sI, hS_sI, hK_sL, hN_sL, hI_sL, hL_sL, hR_sL, hZ_sL, hC_sL, hS_sL, hK_sR, hN_sR, hI_sR, hL_sR, hR_sR, hZ_sR, hC_sR, hS_sR, hK_sA, hN_sA, hI_sA, hL_sA, hR_sA, hK_sLA, hN_sLA, hI_sLA, hL_sLA, hR_sLA, up2_at, vu_at, decide_true, decide_false, nI_ltN, nI_leN, nI_eqN, nI_eq0, nI_lt0N, nI_le0N, nI_gt0N, nI_le00N, nI_add, nI_mul, bB_0, bB_n, d_le, d_nle, d_lt, d_nlt, d_eq, d_ne, u_k0, u_k1, u_k4, u_k5, u_k7, u_k8, u_k11, u_k14, u_k21, u_k24, u_k33, u_k36, u_k40, u_k50, u_k51, u_k62, u_k64, u_k66, u_k68, u_k70, b196_0, u_gI50, u_gL50, u_pL50, u_pI50, u_rf50_0, u_rf50_1, u_rf50_2, u_rf50_3, u_rf50_4, u_rf50_5, u_rf50_6, u_rf50_7, u_rf50_8, u_k50, u_k60, u_n60, u_ld60, u_st60, u_at60, u_pt60, u_rs60, u_al60]
  rw [c1]
  · simp (disch := first | (simp only [Fr_sI, Fr_sL, Fr_sA, Fr_sLA]; assumption) | assumption | decide | omega | (simp only [List.length_cons, List.length_nil, List.drop_succ_cons, List.drop_zero, catS, Value.category, Nat.reduceAdd, Nat.reduceLT, Nat.reduceLeDiff, Nat.le_refl, and_self, and_true, true_and]; done) | (simp only [hK_sI, hN_sI, hK_sL, hN_sL, hK_sR, hN_sR, hK_sA, hN_sA, hK_sLA, hN_sLA]; first | assumption | omega)) only [ex_iadd, ex_isub, ex_imul, ex_iand, ex_ior, ex_ixor, ex_ishl, ex_ishr, ex_iushr, ex_ladd, ex_lsub, ex_lmul, ex_idiv, ex_irem, ex_ldiv, ex_lrem, ex_lshl, ex_lushr, ex_lcmp, ex_i2l, ex_l2i, ex_i2b, ex_iconst, ex_lconst, ex_null, ex_iload, ex_lload, ex_aload, ex_istore, ex_astore, ex_astoreN, ex_lstore, ex_iinc, ex_dup_int, ex_pop_int, ex_dup_ref, ex_pop_ref, ex_dup2l, ex_dup2ri, ex_pop2, ex_goto, ex_jsr, ex_ifnull, ex_ifnullN, ex_ifnn, ex_ifnnN, ex_calls, ex_callv, ex_ireturn, ex_zB, ex_z0, ex_z1, ex_lreturn, ex_vreturn, ex_obj, ex_icmp_eq, ex_icmp_ne, ex_icmp_lt, ex_icmp_ge, ex_icmp_gt, ex_icmp_le, ex_ifc_eq, ex_ifc_ne, ex_ifc_lt, ex_ifc_ge, ex_ifc_gt, ex_ifc_le, lget_cons0, lget_cons, lset1, lclr, isL, List.length_cons, List.length_nil, List.take, List.drop, List.take_zero, List.drop_zero, List.reverse_cons, List.reverse_nil, List.nil_append, List.cons_append, catS, Value.category, tl_some, tl_none, rf_some, rf_none, Int.toNat_natCast, Int.reduceToNat, Nat.reduceAdd, Nat.reduceLT, Nat.reduceLeDiff, Nat.reduceEqDiff, and_true, true_and, and_self, eq_self, reduceIte, false_and, and_false, Bool.false_eq_true, Bool.true_eq_false, or_true, true_or, or_false, false_or, not_true_eq_false, not_false_eq_true, ite_true, ite_false, if_true, if_false, linit, largs, List.replicate, Nat.reduceSub, Nat.sub_self, kim1000000000, kim2, kim1, ki0, ki1, ki2, ki3, ki4, ki5, ki6, ki7, ki8, ki9, ki10, ki12, ki15, ki16, ki20, ki24, ki30, ki32, ki33, ki38, ki40, ki41, ki42, ki43, ki44, ki45, ki46, ki47, ki48, ki50, ki52, ki57, ki58, ki59, ki60, ki61, ki62, ki63, ki91, ki93, ki97, ki99, ki100, ki102, ki108, ki109, ki110, ki111, ki116, ki119, ki120, ki121, ki124, ki128, ki200, ki240, ki255, ki480, ki680, ki999, ki1000, ki7776, ki252645135, ki858993459, ki1431655765, klm1000000000, klm1000000, klm1, kl0, kl1, kl2, kl3, kl4, kl5, kl12, kl60, kl99, kl999, kl1000, kl1000000, kl1000000000, kl4294967295, kl1442695040888963407, kl6364136223846793005, hK_sI, hN_sI, hI_sI, hL_sI, hR_sI, hZ_sI, hC_sI, hS_sI, hK_sL, hN_sL, hI_sL, hL_sL, hR_sL, hZ_sL, hC_sL, hS_sL, hK_sR, hN_sR, hI_sR, hL_sR, hR_sR, hZ_sR, hC_sR, hS_sR, hK_sA, hN_sA, hI_sA, hL_sA, hR_sA, hK_sLA, hN_sLA, hI_sLA, hL_sLA, hR_sLA, up2_at, vu_at, decide_true, decide_false, nI_ltN, nI_leN, nI_eqN, nI_eq0, nI_lt0N, nI_le0N, nI_gt0N, nI_le00N, nI_add, nI_mul, bB_0, bB_n, d_le, d_nle, d_lt, d_nlt, d_eq, d_ne, u_k0, u_k1, u_k4, u_k5, u_k7, u_k8, u_k11, u_k14, u_k21, u_k24, u_k33, u_k36, u_k40, u_k50, u_k51, u_k62, u_k64, u_k66, u_k68, u_k70, u_gI50, u_gL50, u_pL50, u_pI50, u_rf50_0, u_rf50_1, u_rf50_2, u_rf50_3, u_rf50_4, u_rf50_5, u_rf50_6, u_rf50_7, u_rf50_8, u_k50, u_k61, u_n61, u_ld61, u_st61, u_at61, u_pt61, u_rs61, u_al61]
    rw [c2]
    · simp (disch := first | (simp only [Fr_sI, Fr_sL, Fr_sA, Fr_sLA]; assumption) | assumption | decide | omega | (simp only [List.length_cons, List.length_nil, List.drop_succ_cons, List.drop_zero, catS, Value.category, Nat.reduceAdd, Nat.reduceLT, Nat.reduceLeDiff, Nat.le_refl, and_self, and_true, true_and]; done) | (simp only [hK_sI, hN_sI, hK_sL, hN_sL, hK_sR, hN_sR, hK_sA, hN_sA, hK_sLA, hN_sLA]; first | assumption | omega)) only [ex_iadd, ex_isub, ex_imul, ex_iand, ex_ior, ex_ixor, ex_ishl, ex_ishr, ex_iushr, ex_ladd, ex_lsub, ex_lmul, ex_idiv, ex_irem, ex_ldiv, ex_lrem, ex_lshl, ex_lushr, ex_lcmp, ex_i2l, ex_l2i, ex_i2b, ex_iconst, ex_lconst, ex_null, ex_iload, ex_lload, ex_aload, ex_istore, ex_astore, ex_astoreN, ex_lstore, ex_iinc, ex_dup_int, ex_pop_int, ex_dup_ref, ex_pop_ref, ex_dup2l, ex_dup2ri, ex_pop2, ex_goto, ex_jsr, ex_ifnull, ex_ifnullN, ex_ifnn, ex_ifnnN, ex_calls, ex_callv, ex_ireturn, ex_zB, ex_z0, ex_z1, ex_lreturn, ex_vreturn, ex_obj, ex_icmp_eq, ex_icmp_ne, ex_icmp_lt, ex_icmp_ge, ex_icmp_gt, ex_icmp_le, ex_ifc_eq, ex_ifc_ne, ex_ifc_lt, ex_ifc_ge, ex_ifc_gt, ex_ifc_le, lget_cons0, lget_cons, lset1, lclr, isL, List.length_cons, List.length_nil, List.take, List.drop, List.take_zero, List.drop_zero, List.reverse_cons, List.reverse_nil, List.nil_append, List.cons_append, catS, Value.category, tl_some, tl_none, rf_some, rf_none, Int.toNat_natCast, Int.reduceToNat, Nat.reduceAdd, Nat.reduceLT, Nat.reduceLeDiff, Nat.reduceEqDiff, and_true, true_and, and_self, eq_self, reduceIte, false_and, and_false, Bool.false_eq_true, Bool.true_eq_false, or_true, true_or, or_false, false_or, not_true_eq_false, not_false_eq_true, ite_true, ite_false, if_true, if_false, linit, largs, List.replicate, Nat.reduceSub, Nat.sub_self, kim1000000000, kim2, kim1, ki0, ki1, ki2, ki3, ki4, ki5, ki6, ki7, ki8, ki9, ki10, ki12, ki15, ki16, ki20, ki24, ki30, ki32, ki33, ki38, ki40, ki41, ki42, ki43, ki44, ki45, ki46, ki47, ki48, ki50, ki52, ki57, ki58, ki59, ki60, ki61, ki62, ki63, ki91, ki93, ki97, ki99, ki100, ki102, ki108, ki109, ki110, ki111, ki116, ki119, ki120, ki121, ki124, ki128, ki200, ki240, ki255, ki480, ki680, ki999, ki1000, ki7776, ki252645135, ki858993459, ki1431655765, klm1000000000, klm1000000, klm1, kl0, kl1, kl2, kl3, kl4, kl5, kl12, kl60, kl99, kl999, kl1000, kl1000000, kl1000000000, kl4294967295, kl1442695040888963407, kl6364136223846793005, hK_sI, hN_sI, hI_sI, hL_sI, hR_sI, hZ_sI, hC_sI, hS_sI, hK_sL, hN_sL, hI_sL, hL_sL, hR_sL, hZ_sL, hC_sL, hS_sL, hK_sR, hN_sR, hI_sR, hL_sR, hR_sR, hZ_sR, hC_sR, hS_sR, hK_sA, hN_sA, hI_sA, hL_sA, hR_sA, hK_sLA, hN_sLA, hI_sLA, hL_sLA, hR_sLA, up2_at, vu_at, decide_true, decide_false, nI_ltN, nI_leN, nI_eqN, nI_eq0, nI_lt0N, nI_le0N, nI_gt0N, nI_le00N, nI_add, nI_mul, bB_0, bB_n, d_le, d_nle, d_lt, d_nlt, d_eq, d_ne, u_k0, u_k1, u_k4, u_k5, u_k7, u_k8, u_k11, u_k14, u_k21, u_k24, u_k33, u_k36, u_k40, u_k50, u_k51, u_k62, u_k64, u_k66, u_k68, u_k70, u_gI50, u_gL50, u_pL50, u_pI50, u_rf50_0, u_rf50_1, u_rf50_2, u_rf50_3, u_rf50_4, u_rf50_5, u_rf50_6, u_rf50_7, u_rf50_8, u_k50]
      refine ev_sortKinds (D := D + 10) (n := n) (cl := cl) (wt := wt) (ys := ys) (s := s) (o := o) (t := t) (to := to) ⟨f, n5, hn, hc, hw, hy⟩ hy40 ⟨rfl, rfl, rfl⟩ (by omega) (by omega) (by omega) hto (mX_same hc60 hy40 t40 n5 kp) (fun h1 t2 c2 g2 w2 s1 kp2 kh2 e55 e56 => ?_)
      have s2 : Sm sAk h h1 := Sm.tr (((((((((Sm.rf sAk h).wI (a := 50) _ rfl).wI (a := 50) _ rfl).wI (a := 50) _ rfl).wL (a := 50) _ rfl).wL (a := 50) _ rfl).wI (a := 50) _ rfl).wLA (a := 60) _ (fun _ => rfl)).wLA (a := 61) _ (fun _ => rfl)) (s1.mono sAk_1)
      have f1 : Fr h1 := s2.fr f (by decide)
      have h22 := kp_12 n5 kp2 hw12
      have hbX : ∀ l f, l < n → f < 6 → mX cl n ys s o t (6 * l + f) < 50 + n := by
        intro l f hl hf
        rw [mX, show (6 * l + f) / 6 = l from by omega, show (6 * l + f) % 6 = f from by omega]
        have h1 := setN_50 (c := cl (6 * l + f)) (n := n) (y := ys l) (hc60 _ (by omega)) (hy40 l hl) n5
        unfold mnN
        repeat' split
        all_goals omega
      obtain ⟨a1, a2, a3, a4, fs, a5⟩ := kp2
      have kp2 : KP (6 * n) wt (fun c => nI (mX cl n ys s o t c)) t2 c2 g2 w2 := ⟨a1, a2, a3, a4, fs, a5⟩
      have hgn : ∀ l, l < n → ∀ k, k < c2 l → g2 l k = nI ((fun l k => (g2 l k).toNatClampNeg) l k) ∧ (fun l k => (g2 l k).toNatClampNeg) l k < 50 + n := by
        intro l hl k hk
        obtain ⟨b1, b2, b3, b4, b5⟩ := a5 l (by omega) k hk
        have b6 := (a2 l (by omega) _ b1 b2 b3).2
        rw [b4] at b6
        have b7 := hbX l _ hl b1
        dsimp only at b6 ⊢
        rw [b6, nI_clamp (by omega)]
        exact ⟨rfl, b7⟩
      have htk : ∀ l, l < n → ∀ f, f < 6 → wt (6 * l + f) ≠ 0 → (fun l k => to (6 * l + fs l k)) l (t2 (6 * l + f)) = to (6 * l + f) := by
        intro l hl g hg hwg
        obtain ⟨z1, z2⟩ := a2 l (by omega) g hg (by omega) hwg
        obtain ⟨b1, b2, b3, b4, b5⟩ := a5 l (by omega) _ z1
        have b6 := (a2 l (by omega) _ b1 b2 b3).2
        rw [b4] at b6
        exact mX_same hc60 hy40 t40 n5 kp l hl _ _ b1 hg b3 hwg (b6.symm.trans z2)
      have hct : CT h1 n s o t ct sg sh c2 g2 w2 (fun l k => to (6 * l + fs l k)) (fun i => al ct sh (List.range' 0 n) (dfs n ct sh A 3 (fun _ => false) (valE ct n i)) (fun _ => 0)) := by
        refine ⟨f1, n5, (s2.i 36 0 rfl).trans hn, kh2, fun l hl k hk => ?_, kh.sm s2 (fun _ => rfl) (fun _ => rfl) (fun _ => rfl), fun l hl => (s2.i 45 l rfl).trans (hst l hl), fun i hi => (s2.l 48 i rfl).trans (he.1 i hi), s1.i 50 9 rfl, s1.i 50 10 rfl, s1.i 50 11 rfl⟩
        obtain ⟨b1, b2, b3, b4, b5⟩ := a5 l (by omega) k hk
        have b6 := e56 l hl _ b1 b3
        rw [b4] at b6
        exact ⟨b6, (kp.2.1 l (by omega) _ b1 b2 b3).1⟩
      have hE : ∀ τ, (∀ l, l < n → τ l < ct l) → (fun i => al ct sh (List.range' 0 n) (dfs n ct sh A 3 (fun _ => false) (valE ct n i)) (fun _ => 0)) (ixF ct n τ) = pdN sh τ n * KK n ct sh A τ ∧ (fun i => al ct sh (List.range' 0 n) (dfs n ct sh A 3 (fun _ => false) (valE ct n i)) (fun _ => 0)) (ixF ct n τ) ≤ 12 ^ (n + 3) := by
        intro τ hτ
        have hsz := pst_7776 n5 (fun l hl => (kh.1 l (by omega)).2)
        have hlt := ix_lt n hτ
        have p1 := pw_pdN (W := sh) (φ := τ) n 0
        rw [Nat.zero_add, show pdN sh τ 0 = 1 from rfl, Nat.one_mul] at p1
        refine ⟨?_, tally_le (fun l f d _ h => hAn l f d h) h12 (fun ψ g => ?_) _⟩
        · rw [← p1]
          exact ends_eq (fun l f d _ h => hAn l f d h) hτ (by omega) _
        · unfold valE
          repeat' split
          all_goals omega
      simp (disch := first | (simp only [Fr_sI, Fr_sL, Fr_sA, Fr_sLA]; assumption) | assumption | decide | omega | (simp only [List.length_cons, List.length_nil, List.drop_succ_cons, List.drop_zero, catS, Value.category, Nat.reduceAdd, Nat.reduceLT, Nat.reduceLeDiff, Nat.le_refl, and_self, and_true, true_and]; done) | (simp only [hK_sI, hN_sI, hK_sL, hN_sL, hK_sR, hN_sR, hK_sA, hN_sA, hK_sLA, hN_sLA]; first | assumption | omega)) only [ex_iadd, ex_isub, ex_imul, ex_iand, ex_ior, ex_ixor, ex_ishl, ex_ishr, ex_iushr, ex_ladd, ex_lsub, ex_lmul, ex_idiv, ex_irem, ex_ldiv, ex_lrem, ex_lshl, ex_lushr, ex_lcmp, ex_i2l, ex_l2i, ex_i2b, ex_iconst, ex_lconst, ex_null, ex_iload, ex_lload, ex_aload, ex_istore, ex_astore, ex_astoreN, ex_lstore, ex_iinc, ex_dup_int, ex_pop_int, ex_dup_ref, ex_pop_ref, ex_dup2l, ex_dup2ri, ex_pop2, ex_goto, ex_jsr, ex_ifnull, ex_ifnullN, ex_ifnn, ex_ifnnN, ex_calls, ex_callv, ex_ireturn, ex_zB, ex_z0, ex_z1, ex_lreturn, ex_vreturn, ex_obj, ex_icmp_eq, ex_icmp_ne, ex_icmp_lt, ex_icmp_ge, ex_icmp_gt, ex_icmp_le, ex_ifc_eq, ex_ifc_ne, ex_ifc_lt, ex_ifc_ge, ex_ifc_gt, ex_ifc_le, lget_cons0, lget_cons, lset1, lclr, isL, List.length_cons, List.length_nil, List.take, List.drop, List.take_zero, List.drop_zero, List.reverse_cons, List.reverse_nil, List.nil_append, List.cons_append, catS, Value.category, tl_some, tl_none, rf_some, rf_none, Int.toNat_natCast, Int.reduceToNat, Nat.reduceAdd, Nat.reduceLT, Nat.reduceLeDiff, Nat.reduceEqDiff, and_true, true_and, and_self, eq_self, reduceIte, false_and, and_false, Bool.false_eq_true, Bool.true_eq_false, or_true, true_or, or_false, false_or, not_true_eq_false, not_false_eq_true, ite_true, ite_false, if_true, if_false, linit, largs, List.replicate, Nat.reduceSub, Nat.sub_self, kim1000000000, kim2, kim1, ki0, ki1, ki2, ki3, ki4, ki5, ki6, ki7, ki8, ki9, ki10, ki12, ki15, ki16, ki20, ki24, ki30, ki32, ki33, ki38, ki40, ki41, ki42, ki43, ki44, ki45, ki46, ki47, ki48, ki50, ki52, ki57, ki58, ki59, ki60, ki61, ki62, ki63, ki91, ki93, ki97, ki99, ki100, ki102, ki108, ki109, ki110, ki111, ki116, ki119, ki120, ki121, ki124, ki128, ki200, ki240, ki255, ki480, ki680, ki999, ki1000, ki7776, ki252645135, ki858993459, ki1431655765, klm1000000000, klm1000000, klm1, kl0, kl1, kl2, kl3, kl4, kl5, kl12, kl60, kl99, kl999, kl1000, kl1000000, kl1000000000, kl4294967295, kl1442695040888963407, kl6364136223846793005, hK_sI, hN_sI, hI_sI, hL_sI, hR_sI, hZ_sI, hC_sI, hS_sI, hK_sL, hN_sL, hI_sL, hL_sL, hR_sL, hZ_sL, hC_sL, hS_sL, hK_sR, hN_sR, hI_sR, hL_sR, hR_sR, hZ_sR, hC_sR, hS_sR, hK_sA, hN_sA, hI_sA, hL_sA, hR_sA, hK_sLA, hN_sLA, hI_sLA, hL_sLA, hR_sLA, up2_at, vu_at, decide_true, decide_false, nI_ltN, nI_leN, nI_eqN, nI_eq0, nI_lt0N, nI_le0N, nI_gt0N, nI_le00N, nI_add, nI_mul, bB_0, bB_n, d_le, d_nle, d_lt, d_nlt, d_eq, d_ne, u_k0, u_k1, u_k4, u_k5, u_k7, u_k8, u_k11, u_k14, u_k21, u_k24, u_k33, u_k36, u_k40, u_k50, u_k51, u_k62, u_k64, u_k66, u_k68, u_k70, u_gI50, u_gL50, u_pL50, u_pI50, u_rf50_0, u_rf50_1, u_rf50_2, u_rf50_3, u_rf50_4, u_rf50_5, u_rf50_6, u_rf50_7, u_rf50_8, u_k50]
      rw [show D + 15 = (D + (5 - n)) + n + 10 from by omega]
      refine ev_clay HCs_st (cleaf_std (K := KK n ct sh A) hok hgn) h12 h22 hpos hE n 0 (by omega) _ h1 (tF (fun l f => t2 (6 * l + f)) φ0) (fun _ => 0) _ hct (fun i hi => by omega) ⟨s1.l 50 12 rfl, fun c hcc => ⟨(s1.l 60 c rfl).trans ?_, (s1.l 61 c rfl).trans ?_⟩⟩ (fun h2 s3 _ hc2 => ?_)
      · simp [hL_sLA, vu_at, wrN, hcc]
      · simp [hL_sLA, vu_at, wrN, hcc]
      · have hfo := foK_add (c2 := c2) (w2 := w2) (K := fun κ => KK n ct sh A (tF (fun l k => to (6 * l + fs l k)) κ)) (val := vC n s (mtK n s o t (fun l k => (g2 l k).toNatClampNeg))) (lf := fun κ acc c => acc c + KK n ct sh A (tF (fun l k => to (6 * l + fs l k)) κ) * pdN w2 κ n * vC n s (mtK n s o t (fun l k => (g2 l k).toNatClampNeg)) c κ) (n := n) (fun _ _ _ => rfl) n 0 (by omega) (tF (fun l f => t2 (6 * l + f)) φ0) (fun _ => 0)
        have hfo2 : ∀ c, foK c2 (fun κ acc c => acc c + KK n ct sh A (tF (fun l k => to (6 * l + fs l k)) κ) * pdN w2 κ n * vC n s (mtK n s o t (fun l k => (g2 l k).toNatClampNeg)) c κ) n 0 (tF (fun l f => t2 (6 * l + f)) φ0) (fun _ => 0) c = al c2 w2 (List.range' 0 n) (fun κ => KK n ct sh A (tF (fun l k => to (6 * l + fs l k)) κ) * vC n s (mtK n s o t (fun l k => (g2 l k).toNatClampNeg)) c κ) (tF (fun l f => t2 (6 * l + f)) φ0) := by
          intro c
          have := hfo c
          rw [show pdN w2 (tF (fun l f => t2 (6 * l + f)) φ0) 0 = 1 from rfl, Nat.one_mul, Nat.zero_add] at this
          exact this
        have hc3 : HCs h2 (fun c => al c2 w2 (List.range' 0 n) (fun κ => KK n ct sh A (tF (fun l k => to (6 * l + fs l k)) κ) * vC n s (mtK n s o t (fun l k => (g2 l k).toNatClampNeg)) c κ) (tF (fun l f => t2 (6 * l + f)) φ0)) :=
          ⟨hc2.1.trans (congrArg lN (hfo2 0)), fun c hcc => ⟨((hc2.2 c hcc).1).trans (congrArg lN (hfo2 (1 + c))), ((hc2.2 c hcc).2).trans (congrArg lN (hfo2 (31 + c)))⟩⟩
        have f2 : Fr h2 := s3.fr f1 (by decide)
        have hm := hc3.1
        simp (disch := first | (simp only [Fr_sI, Fr_sL, Fr_sA, Fr_sLA]; assumption) | assumption | decide | omega | (simp only [List.length_cons, List.length_nil, List.drop_succ_cons, List.drop_zero, catS, Value.category, Nat.reduceAdd, Nat.reduceLT, Nat.reduceLeDiff, Nat.le_refl, and_self, and_true, true_and]; done) | (simp only [hK_sI, hN_sI, hK_sL, hN_sL, hK_sR, hN_sR, hK_sA, hN_sA, hK_sLA, hN_sLA]; first | assumption | omega)) only [ex_iadd, ex_isub, ex_imul, ex_iand, ex_ior, ex_ixor, ex_ishl, ex_ishr, ex_iushr, ex_ladd, ex_lsub, ex_lmul, ex_idiv, ex_irem, ex_ldiv, ex_lrem, ex_lshl, ex_lushr, ex_lcmp, ex_i2l, ex_l2i, ex_i2b, ex_iconst, ex_lconst, ex_null, ex_iload, ex_lload, ex_aload, ex_istore, ex_astore, ex_astoreN, ex_lstore, ex_iinc, ex_dup_int, ex_pop_int, ex_dup_ref, ex_pop_ref, ex_dup2l, ex_dup2ri, ex_pop2, ex_goto, ex_jsr, ex_ifnull, ex_ifnullN, ex_ifnn, ex_ifnnN, ex_calls, ex_callv, ex_ireturn, ex_zB, ex_z0, ex_z1, ex_lreturn, ex_vreturn, ex_obj, ex_icmp_eq, ex_icmp_ne, ex_icmp_lt, ex_icmp_ge, ex_icmp_gt, ex_icmp_le, ex_ifc_eq, ex_ifc_ne, ex_ifc_lt, ex_ifc_ge, ex_ifc_gt, ex_ifc_le, lget_cons0, lget_cons, lset1, lclr, isL, List.length_cons, List.length_nil, List.take, List.drop, List.take_zero, List.drop_zero, List.reverse_cons, List.reverse_nil, List.nil_append, List.cons_append, catS, Value.category, tl_some, tl_none, rf_some, rf_none, Int.toNat_natCast, Int.reduceToNat, Nat.reduceAdd, Nat.reduceLT, Nat.reduceLeDiff, Nat.reduceEqDiff, and_true, true_and, and_self, eq_self, reduceIte, false_and, and_false, Bool.false_eq_true, Bool.true_eq_false, or_true, true_or, or_false, false_or, not_true_eq_false, not_false_eq_true, ite_true, ite_false, if_true, if_false, linit, largs, List.replicate, Nat.reduceSub, Nat.sub_self, kim1000000000, kim2, kim1, ki0, ki1, ki2, ki3, ki4, ki5, ki6, ki7, ki8, ki9, ki10, ki12, ki15, ki16, ki20, ki24, ki30, ki32, ki33, ki38, ki40, ki41, ki42, ki43, ki44, ki45, ki46, ki47, ki48, ki50, ki52, ki57, ki58, ki59, ki60, ki61, ki62, ki63, ki91, ki93, ki97, ki99, ki100, ki102, ki108, ki109, ki110, ki111, ki116, ki119, ki120, ki121, ki124, ki128, ki200, ki240, ki255, ki480, ki680, ki999, ki1000, ki7776, ki252645135, ki858993459, ki1431655765, klm1000000000, klm1000000, klm1, kl0, kl1, kl2, kl3, kl4, kl5, kl12, kl60, kl99, kl999, kl1000, kl1000000, kl1000000000, kl4294967295, kl1442695040888963407, kl6364136223846793005, hK_sI, hN_sI, hI_sI, hL_sI, hR_sI, hZ_sI, hC_sI, hS_sI, hK_sL, hN_sL, hI_sL, hL_sL, hR_sL, hZ_sL, hC_sL, hS_sL, hK_sR, hN_sR, hI_sR, hL_sR, hR_sR, hZ_sR, hC_sR, hS_sR, hK_sA, hN_sA, hI_sA, hL_sA, hR_sA, hK_sLA, hN_sLA, hI_sLA, hL_sLA, hR_sLA, up2_at, vu_at, decide_true, decide_false, nI_ltN, nI_leN, nI_eqN, nI_eq0, nI_lt0N, nI_le0N, nI_gt0N, nI_le00N, nI_add, nI_mul, bB_0, bB_n, d_le, d_nle, d_lt, d_nlt, d_eq, d_ne, u_k0, u_k1, u_k4, u_k5, u_k7, u_k8, u_k11, u_k14, u_k21, u_k24, u_k33, u_k36, u_k40, u_k50, u_k51, u_k62, u_k64, u_k66, u_k68, u_k70, hm, u_gI50, u_gL50, u_pL50, u_pI50, u_rf50_0, u_rf50_1, u_rf50_2, u_rf50_3, u_rf50_4, u_rf50_5, u_rf50_6, u_rf50_7, u_rf50_8, u_k50]
        have s4 : Sm sAk h h2 := s2.tr (s3.mono sAk_2)
        have hfin := hQ h2 t2 c2 g2 w2 (fun l k => to (6 * l + fs l k)) s4 kp2 (fun c hcc => (s3.i 55 c rfl).trans (e55 c hcc)) htk hc3
        have hta := ask_tally (n := n) (A := A) (tk := fun l k => to (6 * l + fs l k)) (fK := fun κ => b01 (mtK n s o t (fun l k => (g2 l k).toNatClampNeg) κ)) (fF := fun φ => b01 (soB cl n ys a o t e φ 0)) n5 kp2 htk hfm hai (fun φ hφ => by
          congr 1
          rw [← met_so (e := e) (g := 0) q n5 hc60 hy40 (fun l hl => (hφ l hl (by simp)).1)]
          refine mtB_congr (fun l hl => heldN_congr (fun l hl => ?_) (fun l hl => ?_) (n + 1) l hl) on5
          · obtain ⟨z1, z2⟩ := hφ l hl (by simp)
            have z3 := (a2 l (by omega) (φ l) z1 (by have : φ l < 6 := z1; omega) z2).2
            have z4 := hbX l (φ l) hl z1
            show (g2 l (t2 (6 * l + φ l))).toNatClampNeg = _
            rw [z3, nI_clamp (by omega)]
          · obtain ⟨z1, z2⟩ := hφ l hl (by simp)
            have z3 := (a2 l (by omega) (φ l) z1 (by have : φ l < 6 := z1; omega) z2)
            exact (hgn l hl _ z3.1).2) φ0
        have hg0 : (fun (φ : Nat → Nat) (g : Nat) => b01 (soB cl n ys a o t e φ g)) = (fun φ _ => b01 (soB cl n ys a o t e φ 0)) := by
          funext φ g
          have : a ≠ 6 := by unfold askQ at q; omega
          simp only [soB, if_neg this]
        rw [hg0, ← hta] at hfin
        simp only [vC, if_true]
        exact hfin
    · exact f
  · exact f
end
