/-! The class's Tomorrow: types, falls, turns. -/
theorem dfs_congr {n : Nat} {K : Nat → Nat} {W : Nat → Nat → Nat} {A : Nat → Nat → Option Nat} (v : (Nat → Nat) → Nat → Nat) : ∀ (r : Nat) (δ δ' : Nat → Bool) (φ : Nat → Nat), (∀ j, j < n → δ j = δ' j) → dfs n K W A r δ v φ = dfs n K W A r δ' v φ := by
  intro r
  induction r with
  | zero => exact fun _ _ _ _ => rfl
  | succ r ih =>
    intro δ δ' φ h
    rw [dfs, dfs]
    have e : lw n A δ φ = lw n A δ' φ := lowN_congr (fun _ _ => rfl) h n (Nat.le_refl _)
    rw [e]
    cases lw n A δ' φ with
    | none => rfl
    | some l =>
      dsimp only
      cases A l (φ l) with
      | none => rfl
      | some d =>
        dsimp only
        congr 1
        funext ψ
        refine ih _ _ ψ (fun j hj => ?_)
        simp only [dn2, h j hj]
def mkM (dn l d : Nat) : Nat := if (dn ||| 2 ^ l).testBit d = true then (dn ||| 2 ^ l) - 2 ^ d else dn ||| 2 ^ l
theorem mask_of : ∀ dn, dn < 32 → ∀ l, l < 5 → ∀ d, d < 5 → ((nI dn ||| (nI 1 <<< (nI l &&& 31))) &&& ((nI 1 <<< (nI d &&& 31)) ^^^ (-nI 1)) = nI (mkM dn l d) ∧ mkM dn l d < 32 ∧ ∀ j, j < 5 → (mkM dn l d).testBit j = dn2 dn.testBit l d j) := by decide +kernel
/-- the steps: kinds of the laws ahead, multiplied -/
def pst (ct : Nat → Nat) : Nat → Nat
  | 0 => 1
  | l + 1 => pst ct l * ct l
def ixF (ct : Nat → Nat) (n : Nat) (φ : Nat → Nat) : Nat := sm n (fun l => φ l * pst ct l)
theorem ix_lt {ct φ : Nat → Nat} : ∀ n, (∀ l, l < n → φ l < ct l) → ixF ct n φ < pst ct n
  | 0, _ => Nat.lt_succ_self 0
  | n + 1, h => by
    have h1 := ix_lt n (fun l hl => h l (by omega))
    have h2 : (φ n + 1) * pst ct n ≤ ct n * pst ct n := Nat.mul_le_mul_right _ (h n (by omega))
    rw [Nat.add_mul, Nat.one_mul, Nat.mul_comm (ct n)] at h2
    unfold ixF at h1 ⊢
    rw [sm, pst]
    omega
theorem pst_le {ct : Nat → Nat} : ∀ n, (∀ l, l < n → ct l ≤ 6) → pst ct n ≤ 6 ^ n
  | 0, _ => Nat.le_refl 1
  | n + 1, h => by
    have h1 := pst_le n (fun l hl => h l (by omega))
    rw [pst, Nat.pow_succ]
    exact Nat.mul_le_mul h1 (h n (by omega))
theorem pst_7776 {ct : Nat → Nat} {n : Nat} (n5 : n ≤ 5) (h : ∀ l, l < n → ct l ≤ 6) : pst ct n ≤ 7776 :=
  Nat.le_trans (pst_le n h) (Nat.le_trans (Nat.pow_le_pow_right (by decide) n5) (by decide))
theorem sm_up {n d x : Nat} {φ : Nat → Nat} {g : Nat → Nat} : ∀ m, d < m → sm m (fun l => va_up φ d x l * g l) + φ d * g d = sm m (fun l => φ l * g l) + x * g d
  | 0, h => by omega
  | m + 1, h => by
    rw [sm, sm]
    by_cases e : d = m
    · subst e
      have : sm d (fun l => va_up φ d x l * g l) = sm d (fun l => φ l * g l) := sm_congr (fun i hi => by rw [vu_at, if_neg (by omega)])
      rw [this, vu_at, if_pos rfl]
      omega
    · have := sm_up (n := n) (d := d) (x := x) (φ := φ) (g := g) m (by omega)
      rw [vu_at, if_neg (fun q => e q.symm)]
      omega
theorem sm_ge {n d : Nat} {f : Nat → Nat} : ∀ m, d < m → f d ≤ sm m f
  | 0, h => by omega
  | m + 1, h => by
    rw [sm]
    by_cases e : d = m
    · subst e; omega
    · have := sm_ge (n := n) (d := d) (f := f) m (by omega)
      omega
theorem ix_up {ct φ : Nat → Nat} {n d x : Nat} (hd : d < n) : ixF ct n φ - φ d * pst ct d + x * pst ct d = ixF ct n (va_up φ d x) := by
  have h1 := sm_up (n := n) (d := d) (x := x) (φ := φ) (g := pst ct) n hd
  have h2 := sm_ge (n := n) (d := d) (f := fun l => φ l * pst ct l) n hd
  unfold ixF
  omega
def valE (ct : Nat → Nat) (n c : Nat) (φ : Nat → Nat) (g : Nat) : Nat := if c < 7776 then (if ixF ct n φ = c then 1 else 0) else if 7776 + g = c then 1 else 0
def HE (sz : Nat) (h : Hp) (acc : Nat → Nat) : Prop := (∀ i, i < sz → hL h 48 i = lN (acc i)) ∧ ∀ g, g < 4 → hL h 49 g = lN (acc (7776 + g))
def sTm (a _j : Nat) : Bool := a == 46 || a == 47 || a == 48 || a == 49
/-- the heap while types fall -/
def TH (h : Hp) (n : Nat) (ct : Nat → Nat) (sg : Nat → Nat → Int32) (sh : Nat → Nat → Nat) : Prop := Fr h ∧ n ≤ 5 ∧ hI h 36 0 = nI n ∧ KH h 41 42 43 ct sg sh ∧ ∀ l, l < n → hI h 45 l = nI (pst ct l)
theorem TH.sm {h h1 : Hp} {n : Nat} {ct : Nat → Nat} {sg : Nat → Nat → Int32} {sh : Nat → Nat → Nat} (t : TH h n ct sg sh) (s : Sm sTm h h1) : TH h1 n ct sg sh := by
  obtain ⟨f, n5, hn, k, hs⟩ := t
  exact ⟨s.fr f (by decide), n5, (s.i 36 0 rfl).trans hn, k.sm s (fun _ => rfl) (fun _ => rfl) (fun _ => rfl), fun l hl => (s.i 45 l rfl).trans (hs l hl)⟩
/-- types lie as φ -/
def LA (h : Hp) (m : Nat) (ct : Nat → Nat) (A : Nat → Nat → Option Nat) (φ : Nat → Nat) : Prop := ∀ l, l < m → hI h 46 l = nI (φ l) ∧ hI h 47 l = oI (A l (φ l)) ∧ φ l < ct l
theorem HE_add {sz : Nat} {ct : Nat → Nat} {n : Nat} {h : Hp} {acc : Nat → Nat} {φ : Nat → Nat} {g x : Nat} (he : HE sz h acc) (hsz : sz ≤ 7776) (hg : g < 4) : HE sz (sL (sL h 48 (ixF ct n φ) (lN (acc (ixF ct n φ) + x))) 49 g (lN (acc (7776 + g) + x))) (fun c => acc c + x * valE ct n c φ g) := by
  refine ⟨fun i hi => ?_, fun j hj => ?_⟩
  · simp only [hK_sI, hN_sI, hI_sI, hL_sI, hR_sI, hZ_sI, hC_sI, hS_sI, hK_sL, hN_sL, hI_sL, hL_sL, hR_sL, hZ_sL, hC_sL, hS_sL, hK_sR, hN_sR, hI_sR, hL_sR, hR_sR, hZ_sR, hC_sR, hS_sR, hK_sA, hN_sA, hI_sA, hL_sA, hR_sA, hK_sLA, hN_sLA, hI_sLA, hL_sLA, hR_sLA, up2_at, vu_at, valE]
    rw [if_neg (by omega), if_pos (show i < 7776 by omega)]
    by_cases e : i = ixF ct n φ
    · rw [if_pos ⟨trivial, e⟩, if_pos e.symm, Nat.mul_one, e]
    · rw [if_neg (fun q => e q.2), if_neg (fun q => e q.symm), Nat.mul_zero, Nat.add_zero]
      exact he.1 i hi
  · simp only [hK_sI, hN_sI, hI_sI, hL_sI, hR_sI, hZ_sI, hC_sI, hS_sI, hK_sL, hN_sL, hI_sL, hL_sL, hR_sL, hZ_sL, hC_sL, hS_sL, hK_sR, hN_sR, hI_sR, hL_sR, hR_sR, hZ_sR, hC_sR, hS_sR, hK_sA, hN_sA, hI_sA, hL_sA, hR_sA, hK_sLA, hN_sLA, hI_sLA, hL_sLA, hR_sLA, up2_at, vu_at, valE]
    rw [if_neg (show ¬ 7776 + j < 7776 by omega)]
    by_cases e : j = g
    · subst e
      rw [if_pos ⟨trivial, rfl⟩, if_pos rfl, Nat.mul_one]
    · rw [if_neg (fun q => e q.2), if_neg (by omega), if_neg (by omega), Nat.mul_zero, Nat.add_zero]
      exact he.2 j hj
section
variable {n : Nat} {ct : Nat → Nat} {sg : Nat → Nat → Int32} {sh : Nat → Nat → Nat} {A : Nat → Nat → Option Nat}
theorem ev_tlay {D l t : Nat} {h : Hp} {Q : Option Value → Hp → Prop} (f : Fr h) (hl : l < 5) (ht : t < 6) : Ev (D + 3) 272 [.ref 36, .int (nI l), .int (nI t)] h Q = Q none (sI (sI h 46 l (nI t)) 47 l (hI h 42 (6 * l + t))) := by
  rw [Ev_body 3 rfl rfl]
  simp (disch := first | (simp only [Fr_sI, Fr_sL, Fr_sA, Fr_sLA]; assumption) | assumption | decide | omega | (simp only [List.length_cons, List.length_nil, List.drop_succ_cons, List.drop_zero, catS, Value.category, Nat.reduceAdd, Nat.reduceLT, Nat.reduceLeDiff, Nat.le_refl, and_self, and_true, true_and]; done) | (simp only [hK_sI, hN_sI, hK_sL, hN_sL, hK_sR, hN_sR, hK_sA, hN_sA, hK_sLA, hN_sLA]; first | assumption | omega)) only [ex_iadd, ex_isub, ex_imul, ex_iand, ex_ior, ex_ishl, ex_ishr, ex_iushr, ex_ladd, ex_lsub, ex_lmul, ex_idiv, ex_irem, ex_ldiv, ex_lrem, ex_lshl, ex_lushr, ex_lcmp, ex_i2l, ex_l2i, ex_i2b, ex_iconst, ex_lconst, ex_iload, ex_lload, ex_aload, ex_istore, ex_astore, ex_astoreN, ex_lstore, ex_iinc, ex_dup_int, ex_pop_int, ex_dup_ref, ex_pop_ref, ex_dup2l, ex_dup2ri, ex_pop2, ex_goto, ex_jsr, ex_ifnull, ex_ifnullN, ex_ifnn, ex_ifnnN, ex_calls, ex_callv, ex_ireturn, ex_zB, ex_z0, ex_z1, ex_lreturn, ex_vreturn, ex_obj, ex_icmp_eq, ex_icmp_ne, ex_icmp_lt, ex_icmp_ge, ex_icmp_gt, ex_icmp_le, ex_ifc_eq, ex_ifc_ne, ex_ifc_lt, ex_ifc_ge, ex_ifc_gt, ex_ifc_le, lget_cons0, lget_cons, lset1, lclr, isL, List.length_cons, List.length_nil, List.take, List.drop, List.take_zero, List.drop_zero, List.reverse_cons, List.reverse_nil, List.nil_append, List.cons_append, catS, Value.category, tl_some, tl_none, rf_some, rf_none, Int.toNat_natCast, Int.reduceToNat, Nat.reduceAdd, Nat.reduceLT, Nat.reduceLeDiff, Nat.reduceEqDiff, and_true, true_and, and_self, eq_self, reduceIte, false_and, and_false, Bool.false_eq_true, Bool.true_eq_false, or_true, true_or, or_false, false_or, not_true_eq_false, not_false_eq_true, ite_true, ite_false, if_true, if_false, linit, largs, List.replicate, Nat.reduceSub, Nat.sub_self, kim1000000000, kim2, kim1, ki0, ki1, ki2, ki3, ki4, ki5, ki6, ki7, ki8, ki9, ki10, ki12, ki15, ki16, ki20, ki24, ki30, ki32, ki33, ki38, ki40, ki41, ki42, ki43, ki44, ki45, ki46, ki47, ki48, ki50, ki52, ki57, ki58, ki59, ki60, ki61, ki62, ki63, ki91, ki93, ki97, ki99, ki100, ki102, ki108, ki109, ki110, ki111, ki116, ki119, ki120, ki121, ki124, ki128, ki200, ki240, ki255, ki480, ki680, ki999, ki1000, ki7776, ki252645135, ki858993459, ki1431655765, klm1000000000, klm1000000, klm1, kl0, kl1, kl2, kl3, kl4, kl5, kl12, kl60, kl99, kl999, kl1000, kl1000000, kl1000000000, kl4294967295, kl1442695040888963407, kl6364136223846793005, hK_sI, hN_sI, hI_sI, hL_sI, hR_sI, hZ_sI, hC_sI, hS_sI, hK_sL, hN_sL, hI_sL, hL_sL, hR_sL, hZ_sL, hC_sL, hS_sL, hK_sR, hN_sR, hI_sR, hL_sR, hR_sR, hZ_sR, hC_sR, hS_sR, hK_sA, hN_sA, hI_sA, hL_sA, hR_sA, hK_sLA, hN_sLA, hI_sLA, hL_sLA, hR_sLA, up2_at, vu_at, decide_true, decide_false, nI_ltN, nI_leN, nI_eqN, nI_eq0, nI_lt0N, nI_le0N, nI_gt0N, nI_le00N, nI_add, nI_mul, bB_0, bB_n, d_le, d_nle, d_lt, d_nlt, d_eq, d_ne, b272_0, ev_signOf_40, u_gI36, u_pI36, u_rf36_1, u_rf36_2, u_rf36_3, u_rf36_4, u_rf36_5, u_rf36_6, u_rf36_7, u_rf36_8, u_rf36_9, u_rf36_10, u_k36, u_rf40_0, u_rf40_1, u_rf40_2, u_k40, u_k46, u_n46, u_ld46, u_st46, u_at46, u_pt46, u_al46, u_k47, u_n47, u_ld47, u_st47, u_at47, u_pt47, u_al47]
theorem ev_rest {D g i p : Nat} {h : Hp} {Q : Option Value → Hp → Prop} (f : Fr h) (hg : g ≤ 3) (hi : i < 7776) : Ev (D + 3) 273 [.ref 36, .int (nI g), .int (nI i), .long (lN p)] h Q = Q none (sL (sL h 48 i (hL h 48 i + lN (p * 12 ^ (3 - g)))) 49 g (hL h 49 g + lN (p * 12 ^ (3 - g)))) := by
  rw [Ev_body 8 rfl rfl]
  have key : ∀ k j, j + k = 3 → g ≤ j → ∀ (B : Nat), B = p * 12 ^ (j - g) → Ex none (D + 2) 273 (blk 273 1) [some (.ref 36), some (.int (nI g)), some (.int (nI i)), some (.long (lN p)), none, some (.long (lN B)), none, some (.int (nI j))] [] h Q = Q none (sL (sL h 48 i (hL h 48 i + lN (p * 12 ^ (3 - g)))) 49 g (hL h 49 g + lN (p * 12 ^ (3 - g)))) := by
    intro k
    induction k with
    | zero =>
      intro j hj hgj B hB
      have hj3 : j = 3 := by omega
      subst hj3
      rw [b273_1, ← hB]
      simp (disch := first | (simp only [Fr_sI, Fr_sL, Fr_sA, Fr_sLA]; assumption) | assumption | decide | omega | (simp only [List.length_cons, List.length_nil, List.drop_succ_cons, List.drop_zero, catS, Value.category, Nat.reduceAdd, Nat.reduceLT, Nat.reduceLeDiff, Nat.le_refl, and_self, and_true, true_and]; done) | (simp only [hK_sI, hN_sI, hK_sL, hN_sL, hK_sR, hN_sR, hK_sA, hN_sA, hK_sLA, hN_sLA]; first | assumption | omega)) only [ex_iadd, ex_isub, ex_imul, ex_iand, ex_ior, ex_ishl, ex_ishr, ex_iushr, ex_ladd, ex_lsub, ex_lmul, ex_idiv, ex_irem, ex_ldiv, ex_lrem, ex_lshl, ex_lushr, ex_lcmp, ex_i2l, ex_l2i, ex_i2b, ex_iconst, ex_lconst, ex_iload, ex_lload, ex_aload, ex_istore, ex_astore, ex_astoreN, ex_lstore, ex_iinc, ex_dup_int, ex_pop_int, ex_dup_ref, ex_pop_ref, ex_dup2l, ex_dup2ri, ex_pop2, ex_goto, ex_jsr, ex_ifnull, ex_ifnullN, ex_ifnn, ex_ifnnN, ex_calls, ex_callv, ex_ireturn, ex_zB, ex_z0, ex_z1, ex_lreturn, ex_vreturn, ex_obj, ex_icmp_eq, ex_icmp_ne, ex_icmp_lt, ex_icmp_ge, ex_icmp_gt, ex_icmp_le, ex_ifc_eq, ex_ifc_ne, ex_ifc_lt, ex_ifc_ge, ex_ifc_gt, ex_ifc_le, lget_cons0, lget_cons, lset1, lclr, isL, List.length_cons, List.length_nil, List.take, List.drop, List.take_zero, List.drop_zero, List.reverse_cons, List.reverse_nil, List.nil_append, List.cons_append, catS, Value.category, tl_some, tl_none, rf_some, rf_none, Int.toNat_natCast, Int.reduceToNat, Nat.reduceAdd, Nat.reduceLT, Nat.reduceLeDiff, Nat.reduceEqDiff, and_true, true_and, and_self, eq_self, reduceIte, false_and, and_false, Bool.false_eq_true, Bool.true_eq_false, or_true, true_or, or_false, false_or, not_true_eq_false, not_false_eq_true, ite_true, ite_false, if_true, if_false, linit, largs, List.replicate, Nat.reduceSub, Nat.sub_self, kim1000000000, kim2, kim1, ki0, ki1, ki2, ki3, ki4, ki5, ki6, ki7, ki8, ki9, ki10, ki12, ki15, ki16, ki20, ki24, ki30, ki32, ki33, ki38, ki40, ki41, ki42, ki43, ki44, ki45, ki46, ki47, ki48, ki50, ki52, ki57, ki58, ki59, ki60, ki61, ki62, ki63, ki91, ki93, ki97, ki99, ki100, ki102, ki108, ki109, ki110, ki111, ki116, ki119, ki120, ki121, ki124, ki128, ki200, ki240, ki255, ki480, ki680, ki999, ki1000, ki7776, ki252645135, ki858993459, ki1431655765, klm1000000000, klm1000000, klm1, kl0, kl1, kl2, kl3, kl4, kl5, kl12, kl60, kl99, kl999, kl1000, kl1000000, kl1000000000, kl4294967295, kl1442695040888963407, kl6364136223846793005, hK_sI, hN_sI, hI_sI, hL_sI, hR_sI, hZ_sI, hC_sI, hS_sI, hK_sL, hN_sL, hI_sL, hL_sL, hR_sL, hZ_sL, hC_sL, hS_sL, hK_sR, hN_sR, hI_sR, hL_sR, hR_sR, hZ_sR, hC_sR, hS_sR, hK_sA, hN_sA, hI_sA, hL_sA, hR_sA, hK_sLA, hN_sLA, hI_sLA, hL_sLA, hR_sLA, up2_at, vu_at, decide_true, decide_false, nI_ltN, nI_leN, nI_eqN, nI_eq0, nI_lt0N, nI_le0N, nI_gt0N, nI_le00N, nI_add, nI_mul, bB_0, bB_n, d_le, d_nle, d_lt, d_nlt, d_eq, d_ne, b273_2, u_gI36, u_pI36, u_rf36_1, u_rf36_2, u_rf36_3, u_rf36_4, u_rf36_5, u_rf36_6, u_rf36_7, u_rf36_8, u_rf36_9, u_rf36_10, u_k36, u_k48, u_n48, u_ld48, u_st48, u_at48, u_pt48, u_rs48, u_al48, u_k49, u_n49, u_ld49, u_st49, u_at49, u_pt49, u_rs49, u_al49]
    | succ k ih =>
      intro j hj hgj B hB
      have := ih (j + 1) (by omega) (by omega) (B * 12) (by rw [hB, show j + 1 - g = (j - g) + 1 from by omega, Nat.pow_succ, ← Nat.mul_assoc])
      rw [b273_1]
      simp (disch := first | (simp only [Fr_sI, Fr_sL, Fr_sA, Fr_sLA]; assumption) | assumption | decide | omega | (simp only [List.length_cons, List.length_nil, List.drop_succ_cons, List.drop_zero, catS, Value.category, Nat.reduceAdd, Nat.reduceLT, Nat.reduceLeDiff, Nat.le_refl, and_self, and_true, true_and]; done) | (simp only [hK_sI, hN_sI, hK_sL, hN_sL, hK_sR, hN_sR, hK_sA, hN_sA, hK_sLA, hN_sLA]; first | assumption | omega)) only [ex_iadd, ex_isub, ex_imul, ex_iand, ex_ior, ex_ishl, ex_ishr, ex_iushr, ex_ladd, ex_lsub, ex_lmul, ex_idiv, ex_irem, ex_ldiv, ex_lrem, ex_lshl, ex_lushr, ex_lcmp, ex_i2l, ex_l2i, ex_i2b, ex_iconst, ex_lconst, ex_iload, ex_lload, ex_aload, ex_istore, ex_astore, ex_astoreN, ex_lstore, ex_iinc, ex_dup_int, ex_pop_int, ex_dup_ref, ex_pop_ref, ex_dup2l, ex_dup2ri, ex_pop2, ex_goto, ex_jsr, ex_ifnull, ex_ifnullN, ex_ifnn, ex_ifnnN, ex_calls, ex_callv, ex_ireturn, ex_zB, ex_z0, ex_z1, ex_lreturn, ex_vreturn, ex_obj, ex_icmp_eq, ex_icmp_ne, ex_icmp_lt, ex_icmp_ge, ex_icmp_gt, ex_icmp_le, ex_ifc_eq, ex_ifc_ne, ex_ifc_lt, ex_ifc_ge, ex_ifc_gt, ex_ifc_le, lget_cons0, lget_cons, lset1, lclr, isL, List.length_cons, List.length_nil, List.take, List.drop, List.take_zero, List.drop_zero, List.reverse_cons, List.reverse_nil, List.nil_append, List.cons_append, catS, Value.category, tl_some, tl_none, rf_some, rf_none, Int.toNat_natCast, Int.reduceToNat, Nat.reduceAdd, Nat.reduceLT, Nat.reduceLeDiff, Nat.reduceEqDiff, and_true, true_and, and_self, eq_self, reduceIte, false_and, and_false, Bool.false_eq_true, Bool.true_eq_false, or_true, true_or, or_false, false_or, not_true_eq_false, not_false_eq_true, ite_true, ite_false, if_true, if_false, linit, largs, List.replicate, Nat.reduceSub, Nat.sub_self, kim1000000000, kim2, kim1, ki0, ki1, ki2, ki3, ki4, ki5, ki6, ki7, ki8, ki9, ki10, ki12, ki15, ki16, ki20, ki24, ki30, ki32, ki33, ki38, ki40, ki41, ki42, ki43, ki44, ki45, ki46, ki47, ki48, ki50, ki52, ki57, ki58, ki59, ki60, ki61, ki62, ki63, ki91, ki93, ki97, ki99, ki100, ki102, ki108, ki109, ki110, ki111, ki116, ki119, ki120, ki121, ki124, ki128, ki200, ki240, ki255, ki480, ki680, ki999, ki1000, ki7776, ki252645135, ki858993459, ki1431655765, klm1000000000, klm1000000, klm1, kl0, kl1, kl2, kl3, kl4, kl5, kl12, kl60, kl99, kl999, kl1000, kl1000000, kl1000000000, kl4294967295, kl1442695040888963407, kl6364136223846793005, hK_sI, hN_sI, hI_sI, hL_sI, hR_sI, hZ_sI, hC_sI, hS_sI, hK_sL, hN_sL, hI_sL, hL_sL, hR_sL, hZ_sL, hC_sL, hS_sL, hK_sR, hN_sR, hI_sR, hL_sR, hR_sR, hZ_sR, hC_sR, hS_sR, hK_sA, hN_sA, hI_sA, hL_sA, hR_sA, hK_sLA, hN_sLA, hI_sLA, hL_sLA, hR_sLA, up2_at, vu_at, decide_true, decide_false, nI_ltN, nI_leN, nI_eqN, nI_eq0, nI_lt0N, nI_le0N, nI_gt0N, nI_le00N, nI_add, nI_mul, bB_0, bB_n, d_le, d_nle, d_lt, d_nlt, d_eq, d_ne, lN_mul]
      exact this
  simp (disch := first | (simp only [Fr_sI, Fr_sL, Fr_sA, Fr_sLA]; assumption) | assumption | decide | omega | (simp only [List.length_cons, List.length_nil, List.drop_succ_cons, List.drop_zero, catS, Value.category, Nat.reduceAdd, Nat.reduceLT, Nat.reduceLeDiff, Nat.le_refl, and_self, and_true, true_and]; done) | (simp only [hK_sI, hN_sI, hK_sL, hN_sL, hK_sR, hN_sR, hK_sA, hN_sA, hK_sLA, hN_sLA]; first | assumption | omega)) only [ex_iadd, ex_isub, ex_imul, ex_iand, ex_ior, ex_ishl, ex_ishr, ex_iushr, ex_ladd, ex_lsub, ex_lmul, ex_idiv, ex_irem, ex_ldiv, ex_lrem, ex_lshl, ex_lushr, ex_lcmp, ex_i2l, ex_l2i, ex_i2b, ex_iconst, ex_lconst, ex_iload, ex_lload, ex_aload, ex_istore, ex_astore, ex_astoreN, ex_lstore, ex_iinc, ex_dup_int, ex_pop_int, ex_dup_ref, ex_pop_ref, ex_dup2l, ex_dup2ri, ex_pop2, ex_goto, ex_jsr, ex_ifnull, ex_ifnullN, ex_ifnn, ex_ifnnN, ex_calls, ex_callv, ex_ireturn, ex_zB, ex_z0, ex_z1, ex_lreturn, ex_vreturn, ex_obj, ex_icmp_eq, ex_icmp_ne, ex_icmp_lt, ex_icmp_ge, ex_icmp_gt, ex_icmp_le, ex_ifc_eq, ex_ifc_ne, ex_ifc_lt, ex_ifc_ge, ex_ifc_gt, ex_ifc_le, lget_cons0, lget_cons, lset1, lclr, isL, List.length_cons, List.length_nil, List.take, List.drop, List.take_zero, List.drop_zero, List.reverse_cons, List.reverse_nil, List.nil_append, List.cons_append, catS, Value.category, tl_some, tl_none, rf_some, rf_none, Int.toNat_natCast, Int.reduceToNat, Nat.reduceAdd, Nat.reduceLT, Nat.reduceLeDiff, Nat.reduceEqDiff, and_true, true_and, and_self, eq_self, reduceIte, false_and, and_false, Bool.false_eq_true, Bool.true_eq_false, or_true, true_or, or_false, false_or, not_true_eq_false, not_false_eq_true, ite_true, ite_false, if_true, if_false, linit, largs, List.replicate, Nat.reduceSub, Nat.sub_self, kim1000000000, kim2, kim1, ki0, ki1, ki2, ki3, ki4, ki5, ki6, ki7, ki8, ki9, ki10, ki12, ki15, ki16, ki20, ki24, ki30, ki32, ki33, ki38, ki40, ki41, ki42, ki43, ki44, ki45, ki46, ki47, ki48, ki50, ki52, ki57, ki58, ki59, ki60, ki61, ki62, ki63, ki91, ki93, ki97, ki99, ki100, ki102, ki108, ki109, ki110, ki111, ki116, ki119, ki120, ki121, ki124, ki128, ki200, ki240, ki255, ki480, ki680, ki999, ki1000, ki7776, ki252645135, ki858993459, ki1431655765, klm1000000000, klm1000000, klm1, kl0, kl1, kl2, kl3, kl4, kl5, kl12, kl60, kl99, kl999, kl1000, kl1000000, kl1000000000, kl4294967295, kl1442695040888963407, kl6364136223846793005, hK_sI, hN_sI, hI_sI, hL_sI, hR_sI, hZ_sI, hC_sI, hS_sI, hK_sL, hN_sL, hI_sL, hL_sL, hR_sL, hZ_sL, hC_sL, hS_sL, hK_sR, hN_sR, hI_sR, hL_sR, hR_sR, hZ_sR, hC_sR, hS_sR, hK_sA, hN_sA, hI_sA, hL_sA, hR_sA, hK_sLA, hN_sLA, hI_sLA, hL_sLA, hR_sLA, up2_at, vu_at, decide_true, decide_false, nI_ltN, nI_leN, nI_eqN, nI_eq0, nI_lt0N, nI_le0N, nI_gt0N, nI_le00N, nI_add, nI_mul, bB_0, bB_n, d_le, d_nle, d_lt, d_nlt, d_eq, d_ne, b273_0]
  exact key (3 - g) g (by omega) (Nat.le_refl _) p (by rw [Nat.sub_self, Nat.pow_zero, Nat.mul_one])
set_option maxHeartbeats 2000000 in
theorem ev_lastTurn {D d p : Nat} {h : Hp} {φ acc : Nat → Nat} {Q : Option Value → Hp → Prop} (t : TH h n ct sg sh) (hd : d < n) (hφ : ∀ l, l < n → φ l < ct l) (h12 : sm (ct d) (sh d) = 12) (he : HE (pst ct n) h acc) (hQ : ∀ h1, Sm sTm h h1 → (∀ j, hI h1 46 j = hI h 46 j) → (∀ j, hI h1 47 j = hI h 47 j) → HE (pst ct n) h1 (fun c => acc c + p * sm (ct d) (fun x => sh d x * valE ct n c (va_up φ d x) 3)) → Q none h1) : Ev (D + 3) 271 [.ref 36, .int (nI d), .int (nI (ixF ct n φ - φ d * pst ct d)), .long (lN p)] h Q := by
  obtain ⟨f, n5, hn, kh, hs⟩ := t
  have t : TH h n ct sg sh := ⟨f, n5, hn, kh, hs⟩
  have hsz := pst_7776 n5 (fun l hl => (kh.1 l (by omega)).2)
  have c6 := (kh.1 d (by omega)).2
  rw [Ev_body 6 rfl rfl]
  have key : ∀ k j, j + k = ct d → ∀ h1, Sm sTm h h1 → (∀ i, hI h1 46 i = hI h 46 i) → (∀ i, hI h1 47 i = hI h 47 i) → (∀ i, i < pst ct n → hL h1 48 i = lN (acc i + p * sm j (fun x => sh d x * valE ct n i (va_up φ d x) 3))) → (∀ i, hL h1 49 i = hL h 49 i) → Ex none (D + 2) 271 (blk 271 1) [some (.ref 36), some (.int (nI d)), some (.int (nI (ixF ct n φ - φ d * pst ct d))), some (.long (lN p)), none, some (.int (nI j))] [] h1 Q := by
    intro k
    induction k with
    | zero =>
      intro j hj h1 s e1 e2 e3 e4
      have hj : j = ct d := by omega
      subst hj
      have f1 := (t.sm s).1
      have kd := ((t.sm s).2.2.2.1.1 d (by omega)).1
      have e5 := e4 3
      have e6 := he.2 3 (by omega)
      rw [b271_1]
      simp (disch := first | (simp only [Fr_sI, Fr_sL, Fr_sA, Fr_sLA]; assumption) | assumption | decide | omega | (simp only [List.length_cons, List.length_nil, List.drop_succ_cons, List.drop_zero, catS, Value.category, Nat.reduceAdd, Nat.reduceLT, Nat.reduceLeDiff, Nat.le_refl, and_self, and_true, true_and]; done) | (simp only [hK_sI, hN_sI, hK_sL, hN_sL, hK_sR, hN_sR, hK_sA, hN_sA, hK_sLA, hN_sLA]; first | assumption | omega)) only [ex_iadd, ex_isub, ex_imul, ex_iand, ex_ior, ex_ishl, ex_ishr, ex_iushr, ex_ladd, ex_lsub, ex_lmul, ex_idiv, ex_irem, ex_ldiv, ex_lrem, ex_lshl, ex_lushr, ex_lcmp, ex_i2l, ex_l2i, ex_i2b, ex_iconst, ex_lconst, ex_iload, ex_lload, ex_aload, ex_istore, ex_astore, ex_astoreN, ex_lstore, ex_iinc, ex_dup_int, ex_pop_int, ex_dup_ref, ex_pop_ref, ex_dup2l, ex_dup2ri, ex_pop2, ex_goto, ex_jsr, ex_ifnull, ex_ifnullN, ex_ifnn, ex_ifnnN, ex_calls, ex_callv, ex_ireturn, ex_zB, ex_z0, ex_z1, ex_lreturn, ex_vreturn, ex_obj, ex_icmp_eq, ex_icmp_ne, ex_icmp_lt, ex_icmp_ge, ex_icmp_gt, ex_icmp_le, ex_ifc_eq, ex_ifc_ne, ex_ifc_lt, ex_ifc_ge, ex_ifc_gt, ex_ifc_le, lget_cons0, lget_cons, lset1, lclr, isL, List.length_cons, List.length_nil, List.take, List.drop, List.take_zero, List.drop_zero, List.reverse_cons, List.reverse_nil, List.nil_append, List.cons_append, catS, Value.category, tl_some, tl_none, rf_some, rf_none, Int.toNat_natCast, Int.reduceToNat, Nat.reduceAdd, Nat.reduceLT, Nat.reduceLeDiff, Nat.reduceEqDiff, and_true, true_and, and_self, eq_self, reduceIte, false_and, and_false, Bool.false_eq_true, Bool.true_eq_false, or_true, true_or, or_false, false_or, not_true_eq_false, not_false_eq_true, ite_true, ite_false, if_true, if_false, linit, largs, List.replicate, Nat.reduceSub, Nat.sub_self, kim1000000000, kim2, kim1, ki0, ki1, ki2, ki3, ki4, ki5, ki6, ki7, ki8, ki9, ki10, ki12, ki15, ki16, ki20, ki24, ki30, ki32, ki33, ki38, ki40, ki41, ki42, ki43, ki44, ki45, ki46, ki47, ki48, ki50, ki52, ki57, ki58, ki59, ki60, ki61, ki62, ki63, ki91, ki93, ki97, ki99, ki100, ki102, ki108, ki109, ki110, ki111, ki116, ki119, ki120, ki121, ki124, ki128, ki200, ki240, ki255, ki480, ki680, ki999, ki1000, ki7776, ki252645135, ki858993459, ki1431655765, klm1000000000, klm1000000, klm1, kl0, kl1, kl2, kl3, kl4, kl5, kl12, kl60, kl99, kl999, kl1000, kl1000000, kl1000000000, kl4294967295, kl1442695040888963407, kl6364136223846793005, hK_sI, hN_sI, hI_sI, hL_sI, hR_sI, hZ_sI, hC_sI, hS_sI, hK_sL, hN_sL, hI_sL, hL_sL, hR_sL, hZ_sL, hC_sL, hS_sL, hK_sR, hN_sR, hI_sR, hL_sR, hR_sR, hZ_sR, hC_sR, hS_sR, hK_sA, hN_sA, hI_sA, hL_sA, hR_sA, hK_sLA, hN_sLA, hI_sLA, hL_sLA, hR_sLA, up2_at, vu_at, decide_true, decide_false, nI_ltN, nI_leN, nI_eqN, nI_eq0, nI_lt0N, nI_le0N, nI_gt0N, nI_le00N, nI_add, nI_mul, bB_0, bB_n, d_le, d_nle, d_lt, d_nlt, d_eq, d_ne, b271_2, kd, lN_mul, e5, e6, lN_add, u_gI36, u_pI36, u_rf36_1, u_rf36_2, u_rf36_3, u_rf36_4, u_rf36_5, u_rf36_6, u_rf36_7, u_rf36_8, u_rf36_9, u_rf36_10, u_k36, u_rf40_0, u_rf40_1, u_rf40_2, u_k40, u_k41, u_n41, u_ld41, u_st41, u_at41, u_pt41, u_al41, u_k49, u_n49, u_ld49, u_st49, u_at49, u_pt49, u_rs49, u_al49]
      refine hQ _ (s.wL _ rfl) e1 e2 ⟨fun i hi => ?_, fun g hg => ?_⟩
      · simp only [hK_sI, hN_sI, hI_sI, hL_sI, hR_sI, hZ_sI, hC_sI, hS_sI, hK_sL, hN_sL, hI_sL, hL_sL, hR_sL, hZ_sL, hC_sL, hS_sL, hK_sR, hN_sR, hI_sR, hL_sR, hR_sR, hZ_sR, hC_sR, hS_sR, hK_sA, hN_sA, hI_sA, hL_sA, hR_sA, hK_sLA, hN_sLA, hI_sLA, hL_sLA, hR_sLA, up2_at, vu_at]
        simp
        exact e3 i hi
      · simp only [hK_sI, hN_sI, hI_sI, hL_sI, hR_sI, hZ_sI, hC_sI, hS_sI, hK_sL, hN_sL, hI_sL, hL_sL, hR_sL, hZ_sL, hC_sL, hS_sL, hK_sR, hN_sR, hI_sR, hL_sR, hR_sR, hZ_sR, hC_sR, hS_sR, hK_sA, hN_sA, hI_sA, hL_sA, hR_sA, hK_sLA, hN_sLA, hI_sLA, hL_sLA, hR_sLA, up2_at, vu_at]
        have e7 : ∀ x, valE ct n (7776 + g) (va_up φ d x) 3 = if 3 = g then 1 else 0 := by
          intro x
          rw [valE, if_neg (by omega)]
          exact if_cgr (by omega)
        simp only [e7]
        rw [sm_mulR, h12]
        by_cases q : g = 3
        · subst q; simp
        · rw [if_neg (fun z => q z.2), if_neg (fun z => q z.symm), e4, he.2 g hg]; simp
    | succ k ih =>
      intro j hj h1 s e1 e2 e3 e4
      have f1 := (t.sm s).1
      have kd := ((t.sm s).2.2.2.1.1 d (by omega)).1
      have ksh := ((t.sm s).2.2.2.1.2 d (by omega) j (by omega)).2
      have kst := (t.sm s).2.2.2.2 d hd
      have hsh := sm_ge (n := 0) (f := sh d) (ct d) (show j < ct d by omega)
      rw [h12] at hsh
      have hix := ix_up (ct := ct) (φ := φ) (n := n) (d := d) (x := j) hd
      have hlt : ixF ct n (va_up φ d j) < pst ct n := ix_lt n (fun l hl => by
        rw [vu_at]
        split
        · rename_i q; rw [q]; omega
        · exact hφ l hl)
      rw [b271_1]
      simp (disch := first | (simp only [Fr_sI, Fr_sL, Fr_sA, Fr_sLA]; assumption) | assumption | decide | omega | (simp only [List.length_cons, List.length_nil, List.drop_succ_cons, List.drop_zero, catS, Value.category, Nat.reduceAdd, Nat.reduceLT, Nat.reduceLeDiff, Nat.le_refl, and_self, and_true, true_and]; done) | (simp only [hK_sI, hN_sI, hK_sL, hN_sL, hK_sR, hN_sR, hK_sA, hN_sA, hK_sLA, hN_sLA]; first | assumption | omega)) only [ex_iadd, ex_isub, ex_imul, ex_iand, ex_ior, ex_ishl, ex_ishr, ex_iushr, ex_ladd, ex_lsub, ex_lmul, ex_idiv, ex_irem, ex_ldiv, ex_lrem, ex_lshl, ex_lushr, ex_lcmp, ex_i2l, ex_l2i, ex_i2b, ex_iconst, ex_lconst, ex_iload, ex_lload, ex_aload, ex_istore, ex_astore, ex_astoreN, ex_lstore, ex_iinc, ex_dup_int, ex_pop_int, ex_dup_ref, ex_pop_ref, ex_dup2l, ex_dup2ri, ex_pop2, ex_goto, ex_jsr, ex_ifnull, ex_ifnullN, ex_ifnn, ex_ifnnN, ex_calls, ex_callv, ex_ireturn, ex_zB, ex_z0, ex_z1, ex_lreturn, ex_vreturn, ex_obj, ex_icmp_eq, ex_icmp_ne, ex_icmp_lt, ex_icmp_ge, ex_icmp_gt, ex_icmp_le, ex_ifc_eq, ex_ifc_ne, ex_ifc_lt, ex_ifc_ge, ex_ifc_gt, ex_ifc_le, lget_cons0, lget_cons, lset1, lclr, isL, List.length_cons, List.length_nil, List.take, List.drop, List.take_zero, List.drop_zero, List.reverse_cons, List.reverse_nil, List.nil_append, List.cons_append, catS, Value.category, tl_some, tl_none, rf_some, rf_none, Int.toNat_natCast, Int.reduceToNat, Nat.reduceAdd, Nat.reduceLT, Nat.reduceLeDiff, Nat.reduceEqDiff, and_true, true_and, and_self, eq_self, reduceIte, false_and, and_false, Bool.false_eq_true, Bool.true_eq_false, or_true, true_or, or_false, false_or, not_true_eq_false, not_false_eq_true, ite_true, ite_false, if_true, if_false, linit, largs, List.replicate, Nat.reduceSub, Nat.sub_self, kim1000000000, kim2, kim1, ki0, ki1, ki2, ki3, ki4, ki5, ki6, ki7, ki8, ki9, ki10, ki12, ki15, ki16, ki20, ki24, ki30, ki32, ki33, ki38, ki40, ki41, ki42, ki43, ki44, ki45, ki46, ki47, ki48, ki50, ki52, ki57, ki58, ki59, ki60, ki61, ki62, ki63, ki91, ki93, ki97, ki99, ki100, ki102, ki108, ki109, ki110, ki111, ki116, ki119, ki120, ki121, ki124, ki128, ki200, ki240, ki255, ki480, ki680, ki999, ki1000, ki7776, ki252645135, ki858993459, ki1431655765, klm1000000000, klm1000000, klm1, kl0, kl1, kl2, kl3, kl4, kl5, kl12, kl60, kl99, kl999, kl1000, kl1000000, kl1000000000, kl4294967295, kl1442695040888963407, kl6364136223846793005, hK_sI, hN_sI, hI_sI, hL_sI, hR_sI, hZ_sI, hC_sI, hS_sI, hK_sL, hN_sL, hI_sL, hL_sL, hR_sL, hZ_sL, hC_sL, hS_sL, hK_sR, hN_sR, hI_sR, hL_sR, hR_sR, hZ_sR, hC_sR, hS_sR, hK_sA, hN_sA, hI_sA, hL_sA, hR_sA, hK_sLA, hN_sLA, hI_sLA, hL_sLA, hR_sLA, up2_at, vu_at, decide_true, decide_false, nI_ltN, nI_leN, nI_eqN, nI_eq0, nI_lt0N, nI_le0N, nI_gt0N, nI_le00N, nI_add, nI_mul, bB_0, bB_n, d_le, d_nle, d_lt, d_nlt, d_eq, d_ne, kd, kst, hix, ev_shareOf_40, ksh, nI_l, lN_mul, e3 _ hlt, lN_add, u_gI36, u_pI36, u_rf36_1, u_rf36_2, u_rf36_3, u_rf36_4, u_rf36_5, u_rf36_6, u_rf36_7, u_rf36_8, u_rf36_9, u_rf36_10, u_k36, u_rf40_0, u_rf40_1, u_rf40_2, u_k40, u_k41, u_n41, u_ld41, u_st41, u_at41, u_pt41, u_al41, u_k45, u_n45, u_ld45, u_st45, u_at45, u_pt45, u_al45, u_k48, u_n48, u_ld48, u_st48, u_at48, u_pt48, u_rs48, u_al48]
      refine ih (j + 1) (by omega) _ (s.wL _ rfl) e1 e2 (fun i hi => ?_) (fun i => ?_)
      · simp only [hK_sI, hN_sI, hI_sI, hL_sI, hR_sI, hZ_sI, hC_sI, hS_sI, hK_sL, hN_sL, hI_sL, hL_sL, hR_sL, hZ_sL, hC_sL, hS_sL, hK_sR, hN_sR, hI_sR, hL_sR, hR_sR, hZ_sR, hC_sR, hS_sR, hK_sA, hN_sA, hI_sA, hL_sA, hR_sA, hK_sLA, hN_sLA, hI_sLA, hL_sLA, hR_sLA, up2_at, vu_at]
        rw [sm]
        by_cases q : i = ixF ct n (va_up φ d j)
        · subst q
          rw [if_pos ⟨trivial, rfl⟩, valE, if_pos (by omega), if_pos rfl, Nat.mul_one, Nat.mul_add, Nat.add_assoc]
        · rw [if_neg (fun z => q z.2), valE, if_pos (by omega), if_neg (fun z => q z.symm), Nat.mul_zero, Nat.add_zero]
          exact e3 i hi
      · simp only [hK_sI, hN_sI, hI_sI, hL_sI, hR_sI, hZ_sI, hC_sI, hS_sI, hK_sL, hN_sL, hI_sL, hL_sL, hR_sL, hZ_sL, hC_sL, hS_sL, hK_sR, hN_sR, hI_sR, hL_sR, hR_sR, hZ_sR, hC_sR, hS_sR, hK_sA, hN_sA, hI_sA, hL_sA, hR_sA, hK_sLA, hN_sLA, hI_sLA, hL_sLA, hR_sLA, up2_at, vu_at]
        simp
        exact e4 i
  simp (disch := first | (simp only [Fr_sI, Fr_sL, Fr_sA, Fr_sLA]; assumption) | assumption | decide | omega | (simp only [List.length_cons, List.length_nil, List.drop_succ_cons, List.drop_zero, catS, Value.category, Nat.reduceAdd, Nat.reduceLT, Nat.reduceLeDiff, Nat.le_refl, and_self, and_true, true_and]; done) | (simp only [hK_sI, hN_sI, hK_sL, hN_sL, hK_sR, hN_sR, hK_sA, hN_sA, hK_sLA, hN_sLA]; first | assumption | omega)) only [ex_iadd, ex_isub, ex_imul, ex_iand, ex_ior, ex_ishl, ex_ishr, ex_iushr, ex_ladd, ex_lsub, ex_lmul, ex_idiv, ex_irem, ex_ldiv, ex_lrem, ex_lshl, ex_lushr, ex_lcmp, ex_i2l, ex_l2i, ex_i2b, ex_iconst, ex_lconst, ex_iload, ex_lload, ex_aload, ex_istore, ex_astore, ex_astoreN, ex_lstore, ex_iinc, ex_dup_int, ex_pop_int, ex_dup_ref, ex_pop_ref, ex_dup2l, ex_dup2ri, ex_pop2, ex_goto, ex_jsr, ex_ifnull, ex_ifnullN, ex_ifnn, ex_ifnnN, ex_calls, ex_callv, ex_ireturn, ex_zB, ex_z0, ex_z1, ex_lreturn, ex_vreturn, ex_obj, ex_icmp_eq, ex_icmp_ne, ex_icmp_lt, ex_icmp_ge, ex_icmp_gt, ex_icmp_le, ex_ifc_eq, ex_ifc_ne, ex_ifc_lt, ex_ifc_ge, ex_ifc_gt, ex_ifc_le, lget_cons0, lget_cons, lset1, lclr, isL, List.length_cons, List.length_nil, List.take, List.drop, List.take_zero, List.drop_zero, List.reverse_cons, List.reverse_nil, List.nil_append, List.cons_append, catS, Value.category, tl_some, tl_none, rf_some, rf_none, Int.toNat_natCast, Int.reduceToNat, Nat.reduceAdd, Nat.reduceLT, Nat.reduceLeDiff, Nat.reduceEqDiff, and_true, true_and, and_self, eq_self, reduceIte, false_and, and_false, Bool.false_eq_true, Bool.true_eq_false, or_true, true_or, or_false, false_or, not_true_eq_false, not_false_eq_true, ite_true, ite_false, if_true, if_false, linit, largs, List.replicate, Nat.reduceSub, Nat.sub_self, kim1000000000, kim2, kim1, ki0, ki1, ki2, ki3, ki4, ki5, ki6, ki7, ki8, ki9, ki10, ki12, ki15, ki16, ki20, ki24, ki30, ki32, ki33, ki38, ki40, ki41, ki42, ki43, ki44, ki45, ki46, ki47, ki48, ki50, ki52, ki57, ki58, ki59, ki60, ki61, ki62, ki63, ki91, ki93, ki97, ki99, ki100, ki102, ki108, ki109, ki110, ki111, ki116, ki119, ki120, ki121, ki124, ki128, ki200, ki240, ki255, ki480, ki680, ki999, ki1000, ki7776, ki252645135, ki858993459, ki1431655765, klm1000000000, klm1000000, klm1, kl0, kl1, kl2, kl3, kl4, kl5, kl12, kl60, kl99, kl999, kl1000, kl1000000, kl1000000000, kl4294967295, kl1442695040888963407, kl6364136223846793005, hK_sI, hN_sI, hI_sI, hL_sI, hR_sI, hZ_sI, hC_sI, hS_sI, hK_sL, hN_sL, hI_sL, hL_sL, hR_sL, hZ_sL, hC_sL, hS_sL, hK_sR, hN_sR, hI_sR, hL_sR, hR_sR, hZ_sR, hC_sR, hS_sR, hK_sA, hN_sA, hI_sA, hL_sA, hR_sA, hK_sLA, hN_sLA, hI_sLA, hL_sLA, hR_sLA, up2_at, vu_at, decide_true, decide_false, nI_ltN, nI_leN, nI_eqN, nI_eq0, nI_lt0N, nI_le0N, nI_gt0N, nI_le00N, nI_add, nI_mul, bB_0, bB_n, d_le, d_nle, d_lt, d_nlt, d_eq, d_ne, b271_0]
  exact key (ct d) 0 (by omega) h (Sm.rf _ _) (fun _ => rfl) (fun _ => rfl) (fun i hi => by rw [he.1 i hi]; simp [sm]) (fun _ => rfl)
end
