/-! The class's walk over the kinds in which dice lie in the end. -/
def pdN (W : Nat → Nat → Nat) (φ : Nat → Nat) : Nat → Nat
  | 0 => 1
  | l + 1 => pdN W φ l * W l (φ l)
theorem pdN_congr {W : Nat → Nat → Nat} {φ ψ : Nat → Nat} : ∀ l, (∀ i, i < l → φ i = ψ i) → pdN W φ l = pdN W ψ l
  | 0, _ => rfl
  | l + 1, h => by rw [pdN, pdN, pdN_congr l (fun i hi => h i (by omega)), h l (by omega)]
theorem pdN_up {W : Nat → Nat → Nat} {φ : Nat → Nat} {l x : Nat} : pdN W (va_up φ l x) (l + 1) = pdN W φ l * W l x := by
  rw [pdN, pdN_congr (ψ := φ) l (fun i hi => by rw [vu_at, if_neg (by omega)]), vu_at, if_pos rfl]
theorem pw_pdN {W : Nat → Nat → Nat} {φ : Nat → Nat} : ∀ r l, pdN W φ l * pw W (List.range' l r) φ = pdN W φ (l + r)
  | 0, l => by simp [pw]
  | r + 1, l => by
    rw [range'_s, pw, ← Nat.mul_assoc]
    have := pw_pdN (W := W) (φ := φ) r (l + 1)
    rw [pdN] at this
    rw [this]
    congr 1
    omega
theorem pdN_pos {W : Nat → Nat → Nat} {φ : Nat → Nat} : ∀ l, (∀ i, i < l → 0 < W i (φ i)) → 0 < pdN W φ l
  | 0, _ => Nat.one_pos
  | l + 1, h => Nat.mul_pos (pdN_pos l (fun i hi => h i (by omega))) (h l (by omega))
theorem pdN_le {W : Nat → Nat → Nat} {φ : Nat → Nat} : ∀ l, (∀ i, i < l → W i (φ i) ≤ 12) → pdN W φ l ≤ 12 ^ l
  | 0, _ => Nat.le_refl 1
  | l + 1, h => by
    rw [pdN, Nat.pow_succ]
    exact Nat.mul_le_mul (pdN_le l (fun i hi => h i (by omega))) (h l (by omega))
def itN {σ : Type} (f : Nat → σ → σ) : Nat → σ → σ
  | 0, s => s
  | j + 1, s => f j (itN f j s)
/-- the walk: every lie of kinds in order -/
def foK (c2 : Nat → Nat) (lf : (Nat → Nat) → (Nat → Nat) → Nat → Nat) : Nat → Nat → (Nat → Nat) → (Nat → Nat) → Nat → Nat
  | 0, _, κ, s => lf κ s
  | r + 1, l, κ, s => itN (fun j s => foK c2 lf r (l + 1) (va_up κ l j) s) (c2 l) s
theorem foK_add {c2 : Nat → Nat} {w2 : Nat → Nat → Nat} {K : FV} {val : Nat → FV} {lf : (Nat → Nat) → (Nat → Nat) → Nat → Nat} {n : Nat} (hlf : ∀ κ s c, lf κ s c = s c + K κ * pdN w2 κ n * val c κ) : ∀ (r l : Nat), l + r = n → ∀ κ s c, foK c2 lf r l κ s c = s c + pdN w2 κ l * al c2 w2 (List.range' l r) (fun κ => K κ * val c κ) κ := by
  intro r
  induction r with
  | zero =>
    intro l hl κ s c
    have hl : l = n := by omega
    subst hl
    rw [foK, hlf]
    show _ = s c + pdN w2 κ l * (K κ * val c κ)
    rw [← Nat.mul_assoc, Nat.mul_comm (pdN w2 κ l)]
  | succ r ih =>
    intro l hl κ s c
    rw [foK, range'_s, al, av]
    have key : ∀ m, itN (fun j s => foK c2 lf r (l + 1) (va_up κ l j) s) m s c = s c + pdN w2 κ l * sm m (fun f => w2 l f * al c2 w2 (List.range' (l + 1) r) (fun κ => K κ * val c κ) (va_up κ l f)) := by
      intro m
      induction m with
      | zero => simp [itN, sm]
      | succ m ihm =>
        rw [itN, ih (l + 1) (by omega), ihm, sm, pdN_up, Nat.mul_add, Nat.mul_assoc, Nat.add_assoc]
    exact key _
def sLf (a j : Nat) : Bool := a == 59 || a == 60 || a == 61 || (a == 50 && (j == 12 || j == 13 || j == 14))
def sLy (a j : Nat) : Bool := sLf a j || a == 57 || a == 58
theorem sLy_1 : ∀ a j, sLy a j = false → sLf a j = false := fun a j h => by
  simp only [sLy, Bool.or_eq_false_iff] at h
  exact h.1.1
/-- what stays on the walk -/
def CT (h : Hp) (n s o t : Nat) (ct : Nat → Nat) (sg : Nat → Nat → Int32) (sh : Nat → Nat → Nat) (c2 : Nat → Nat) (g2 : Nat → Nat → Int32) (w2 : Nat → Nat → Nat) (tk : Nat → Nat → Nat) (E : Nat → Nat) : Prop := Fr h ∧ n ≤ 5 ∧ hI h 36 0 = nI n ∧ KH h 52 53 54 c2 g2 w2 ∧ (∀ l, l < n → ∀ k, k < c2 l → hI h 56 (6 * l + k) = nI (tk l k) ∧ tk l k < ct l) ∧ KH h 41 42 43 ct sg sh ∧ (∀ l, l < n → hI h 45 l = nI (pst ct l)) ∧ (∀ i, i < pst ct n → hL h 48 i = lN (E i)) ∧ asks h s o t
section
variable {n s o t : Nat} {ct : Nat → Nat} {sg : Nat → Nat → Int32} {sh : Nat → Nat → Nat} {c2 : Nat → Nat} {g2 : Nat → Nat → Int32} {w2 : Nat → Nat → Nat} {tk : Nat → Nat → Nat} {E : Nat → Nat} {K : FV} {HC : Hp → (Nat → Nat) → Prop} {lf : (Nat → Nat) → (Nat → Nat) → Nat → Nat}
theorem CT.sm {h h1 : Hp} (c : CT h n s o t ct sg sh c2 g2 w2 tk E) (q : Sm sLy h h1) : CT h1 n s o t ct sg sh c2 g2 w2 tk E := by
  obtain ⟨f, n5, hn, k2, ht, k1, hs, he, a1, a2, a3⟩ := c
  exact ⟨q.fr f (by decide), n5, (q.i 36 0 rfl).trans hn, k2.sm q (fun _ => rfl) (fun _ => rfl) (fun _ => rfl), fun l hl k hk => by rw [q.i 56 _ rfl]; exact ht l hl k hk, k1.sm q (fun _ => rfl) (fun _ => rfl) (fun _ => rfl), fun l hl => (q.i 45 l rfl).trans (hs l hl), fun i hi => (q.l 48 i rfl).trans (he i hi), (q.i 50 9 rfl).trans a1, (q.i 50 10 rfl).trans a2, (q.i 50 11 rfl).trans a3⟩
def cleaf (n s o t : Nat) (ct : Nat → Nat) (sg : Nat → Nat → Int32) (sh : Nat → Nat → Nat) (c2 : Nat → Nat) (g2 : Nat → Nat → Int32) (w2 : Nat → Nat → Nat) (tk : Nat → Nat → Nat) (E : Nat → Nat) (K : FV) (HC : Hp → (Nat → Nat) → Prop) (lf : (Nat → Nat) → (Nat → Nat) → Nat → Nat) : Prop := ∀ (D : Nat) (h : Hp) (κ acc : Nat → Nat) (x7 x8 x9 : Option Value) (ix : Int32) (ww tw : Int64) (Q : Option Value → Hp → Prop), CT h n s o t ct sg sh c2 g2 w2 tk E → (∀ i, i < n → hI h 57 i = nI (κ i) ∧ hI h 58 i = g2 i (κ i) ∧ κ i < c2 i) → HC h acc → K (tF tk κ) * pdN w2 κ n ≤ 12 ^ 16 → (∀ h1, Sm sLf h h1 → HC h1 (lf κ acc) → Q none h1) → Ex none (D + 9) 200 (blk 200 2) [some (.ref 50), some (.int (nI n)), some (.int ix), some (.long ww), none, some (.long tw), none, x7, x8, x9] [.long (lN (K (tF tk κ) * pdN w2 κ n))] h Q
def s578 (a _j : Nat) : Bool := a == 57 || a == 58
set_option maxHeartbeats 4000000 in
theorem ev_clay (hst : ∀ h h1 acc, Sm s578 h h1 → HC h acc → HC h1 acc) (hleaf : cleaf n s o t ct sg sh c2 g2 w2 tk E K HC lf) (h12 : ∀ l, l < n → sm (ct l) (sh l) = 12) (h22 : ∀ l, l < n → sm (c2 l) (w2 l) = 12) (hpos : ∀ l, l < n → ∀ k, k < ct l → 0 < sh l k) (hE : ∀ τ, (∀ l, l < n → τ l < ct l) → E (ixF ct n τ) = pdN sh τ n * K τ ∧ E (ixF ct n τ) ≤ 12 ^ (n + 3)) : ∀ (r l : Nat), l + r = n → ∀ (D : Nat) (h : Hp) (κ acc : Nat → Nat) (Q : Option Value → Hp → Prop), CT h n s o t ct sg sh c2 g2 w2 tk E → (∀ i, i < l → hI h 57 i = nI (κ i) ∧ hI h 58 i = g2 i (κ i) ∧ κ i < c2 i) → HC h acc → (∀ h1, Sm sLy h h1 → (∀ i, i < l → hI h1 57 i = hI h 57 i ∧ hI h1 58 i = hI h 58 i) → HC h1 (foK c2 lf r l κ acc) → Q none h1) → Ev (D + r + 10) 200 [.ref 50, .int (nI l), .int (nI (ixF ct l (tF tk κ))), .long (lN (pdN w2 κ l)), .long (lN (pdN sh (tF tk κ) l))] h Q := by
  intro r
  induction r with
  | zero =>
    intro l hl D h κ acc Q c hκ hc hQ
    have hl : l = n := by omega
    subst hl
    obtain ⟨f, n5, hn, k2, ht, k1, hs, he, a1, a2, a3⟩ := c
    have c : CT h l s o t ct sg sh c2 g2 w2 tk E := ⟨f, n5, hn, k2, ht, k1, hs, he, a1, a2, a3⟩
    have hτ : ∀ i, i < l → tF tk κ i < ct i := fun i hi => (ht i hi (κ i) (hκ i hi).2.2).2
    have hlt := ix_lt l hτ
    have hsz := pst_7776 n5 (fun i hi => (k1.1 i (by omega)).2)
    obtain ⟨e1, e2⟩ := hE (tF tk κ) hτ
    have e3 := he _ hlt
    have hw : ∀ i, i < l → sh i (tF tk κ i) ≤ 12 := fun i hi => by
      have := sm_ge (n := 0) (f := sh i) (ct i) (hτ i hi)
      rw [h12 i hi] at this
      exact this
    have hw2 : ∀ i, i < l → w2 i (κ i) ≤ 12 := fun i hi => by
      have := sm_ge (n := 0) (f := w2 i) (c2 i) (hκ i hi).2.2
      rw [h22 i hi] at this
      exact this
    have hp0 := pdN_pos (W := sh) (φ := tF tk κ) l (fun i hi => hpos i hi _ (hτ i hi))
    have hp1 := pdN_le (W := sh) (φ := tF tk κ) l hw
    have hp2 := pdN_le (W := w2) (φ := κ) l hw2
    have b5 : 12 ^ l ≤ 12 ^ 5 := Nat.pow_le_pow_right (by decide) n5
    have b8 : 12 ^ (l + 3) ≤ 12 ^ 8 := Nat.pow_le_pow_right (by decide) (by omega)
    have b5' : (12 : Nat) ^ 5 = 248832 := by decide
    have b8' : (12 : Nat) ^ 8 = 429981696 := by decide
    have hne : ¬ lN (pdN sh (tF tk κ) l) = 0 := by
      rw [lN_eq0 (by omega)]
      omega
    have hdiv : pdN sh (tF tk κ) l * K (tF tk κ) / pdN sh (tF tk κ) l = K (tF tk κ) := Nat.mul_div_cancel_left _ hp0
    have hKle : K (tF tk κ) * pdN w2 κ l ≤ 12 ^ 16 := by
      have h1 : K (tF tk κ) ≤ 12 ^ 8 := by
        have := Nat.le_mul_of_pos_left (K (tF tk κ)) hp0
        rw [← e1] at this
        omega
      have h2 := Nat.mul_le_mul h1 (Nat.le_trans hp2 b5)
      exact Nat.le_trans h2 (by decide)
    rw [Ev_body 10 rfl rfl]
    simp (disch := first | (simp only [Fr_sI, Fr_sL, Fr_sA, Fr_sLA]; assumption) | assumption | decide | omega | (simp only [List.length_cons, List.length_nil, List.drop_succ_cons, List.drop_zero, catS, Value.category, Nat.reduceAdd, Nat.reduceLT, Nat.reduceLeDiff, Nat.le_refl, and_self, and_true, true_and]; done) | (simp only [hK_sI, hN_sI, hK_sL, hN_sL, hK_sR, hN_sR, hK_sA, hN_sA, hK_sLA, hN_sLA]; first | assumption | omega)) only [ex_iadd, ex_isub, ex_imul, ex_iand, ex_ior, ex_ixor, ex_ishl, ex_ishr, ex_iushr, ex_ladd, ex_lsub, ex_lmul, ex_idiv, ex_irem, ex_ldiv, ex_lrem, ex_lshl, ex_lushr, ex_lcmp, ex_i2l, ex_l2i, ex_i2b, ex_iconst, ex_lconst, ex_null, ex_iload, ex_lload, ex_aload, ex_istore, ex_astore, ex_astoreN, ex_lstore, ex_iinc, ex_dup_int, ex_pop_int, ex_dup_ref, ex_pop_ref, ex_dup2l, ex_dup2ri, ex_pop2, ex_goto, ex_jsr, ex_ifnull, ex_ifnullN, ex_ifnn, ex_ifnnN, ex_calls, ex_callv, ex_ireturn, ex_zB, ex_z0, ex_z1, ex_lreturn, ex_vreturn, ex_obj, ex_icmp_eq, ex_icmp_ne, ex_icmp_lt, ex_icmp_ge, ex_icmp_gt, ex_icmp_le, ex_ifc_eq, ex_ifc_ne, ex_ifc_lt, ex_ifc_ge, ex_ifc_gt, ex_ifc_le, lget_cons0, lget_cons, lset1, lclr, isL, List.length_cons, List.length_nil, List.take, List.drop, List.take_zero, List.drop_zero, List.reverse_cons, List.reverse_nil, List.nil_append, List.cons_append, catS, Value.category, tl_some, tl_none, rf_some, rf_none, Int.toNat_natCast, Int.reduceToNat, Nat.reduceAdd, Nat.reduceLT, Nat.reduceLeDiff, Nat.reduceEqDiff, and_true, true_and, and_self, eq_self, reduceIte, false_and, and_false, Bool.false_eq_true, Bool.true_eq_false, or_true, true_or, or_false, false_or, not_true_eq_false, not_false_eq_true, ite_true, ite_false, if_true, if_false, linit, largs, List.replicate, Nat.reduceSub, Nat.sub_self, kim1000000000, kim2, kim1, ki0, ki1, ki2, ki3, ki4, ki5, ki6, ki7, ki8, ki9, ki10, ki12, ki15, ki16, ki20, ki24, ki30, ki32, ki33, ki38, ki40, ki41, ki42, ki43, ki44, ki45, ki46, ki47, ki48, ki50, ki52, ki57, ki58, ki59, ki60, ki61, ki62, ki63, ki91, ki93, ki97, ki99, ki100, ki102, ki108, ki109, ki110, ki111, ki116, ki119, ki120, ki121, ki124, ki128, ki200, ki240, ki255, ki480, ki680, ki999, ki1000, ki7776, ki252645135, ki858993459, ki1431655765, klm1000000000, klm1000000, klm1, kl0, kl1, kl2, kl3, kl4, kl5, kl12, kl60, kl99, kl999, kl1000, kl1000000, kl1000000000, kl4294967295, kl1442695040888963407, kl6364136223846793005, hK_sI, hN_sI, hI_sI, hL_sI, hR_sI, hZ_sI, hC_sI, hS_sI, hK_sL, hN_sL, hI_sL, hL_sL, hR_sL, hZ_sL, hC_sL, hS_sL, hK_sR, hN_sR, hI_sR, hL_sR, hR_sR, hZ_sR, hC_sR, hS_sR, hK_sA, hN_sA, hI_sA, hL_sA, hR_sA, hK_sLA, hN_sLA, hI_sLA, hL_sLA, hR_sLA, up2_at, vu_at, decide_true, decide_false, nI_ltN, nI_leN, nI_eqN, nI_eq0, nI_lt0N, nI_le0N, nI_gt0N, nI_le00N, nI_add, nI_mul, bB_0, bB_n, d_le, d_nle, d_lt, d_nlt, d_eq, d_ne, u_k0, u_k1, u_k4, u_k5, u_k7, u_k8, u_k11, u_k14, u_k21, u_k24, u_k33, u_k36, u_k40, u_k50, u_k51, u_k62, u_k64, u_k66, u_k68, u_k70, b200_0, hn, lgc_eq, lN_eqN, u_gI36, u_pI36, u_rf36_1, u_rf36_2, u_rf36_3, u_rf36_4, u_rf36_5, u_rf36_6, u_rf36_7, u_rf36_8, u_rf36_9, u_rf36_10, u_k36, u_gI50, u_gL50, u_pL50, u_pI50, u_rf50_0, u_rf50_1, u_rf50_2, u_rf50_3, u_rf50_4, u_rf50_5, u_rf50_6, u_rf50_7, u_rf50_8, u_k50]
    simp (disch := first | (simp only [Fr_sI, Fr_sL, Fr_sA, Fr_sLA]; assumption) | assumption | decide | omega | (simp only [List.length_cons, List.length_nil, List.drop_succ_cons, List.drop_zero, catS, Value.category, Nat.reduceAdd, Nat.reduceLT, Nat.reduceLeDiff, Nat.le_refl, and_self, and_true, true_and]; done) | (simp only [hK_sI, hN_sI, hK_sL, hN_sL, hK_sR, hN_sR, hK_sA, hN_sA, hK_sLA, hN_sLA]; first | assumption | omega)) only [ex_iadd, ex_isub, ex_imul, ex_iand, ex_ior, ex_ixor, ex_ishl, ex_ishr, ex_iushr, ex_ladd, ex_lsub, ex_lmul, ex_idiv, ex_irem, ex_ldiv, ex_lrem, ex_lshl, ex_lushr, ex_lcmp, ex_i2l, ex_l2i, ex_i2b, ex_iconst, ex_lconst, ex_null, ex_iload, ex_lload, ex_aload, ex_istore, ex_astore, ex_astoreN, ex_lstore, ex_iinc, ex_dup_int, ex_pop_int, ex_dup_ref, ex_pop_ref, ex_dup2l, ex_dup2ri, ex_pop2, ex_goto, ex_jsr, ex_ifnull, ex_ifnullN, ex_ifnn, ex_ifnnN, ex_calls, ex_callv, ex_ireturn, ex_zB, ex_z0, ex_z1, ex_lreturn, ex_vreturn, ex_obj, ex_icmp_eq, ex_icmp_ne, ex_icmp_lt, ex_icmp_ge, ex_icmp_gt, ex_icmp_le, ex_ifc_eq, ex_ifc_ne, ex_ifc_lt, ex_ifc_ge, ex_ifc_gt, ex_ifc_le, lget_cons0, lget_cons, lset1, lclr, isL, List.length_cons, List.length_nil, List.take, List.drop, List.take_zero, List.drop_zero, List.reverse_cons, List.reverse_nil, List.nil_append, List.cons_append, catS, Value.category, tl_some, tl_none, rf_some, rf_none, Int.toNat_natCast, Int.reduceToNat, Nat.reduceAdd, Nat.reduceLT, Nat.reduceLeDiff, Nat.reduceEqDiff, and_true, true_and, and_self, eq_self, reduceIte, false_and, and_false, Bool.false_eq_true, Bool.true_eq_false, or_true, true_or, or_false, false_or, not_true_eq_false, not_false_eq_true, ite_true, ite_false, if_true, if_false, linit, largs, List.replicate, Nat.reduceSub, Nat.sub_self, kim1000000000, kim2, kim1, ki0, ki1, ki2, ki3, ki4, ki5, ki6, ki7, ki8, ki9, ki10, ki12, ki15, ki16, ki20, ki24, ki30, ki32, ki33, ki38, ki40, ki41, ki42, ki43, ki44, ki45, ki46, ki47, ki48, ki50, ki52, ki57, ki58, ki59, ki60, ki61, ki62, ki63, ki91, ki93, ki97, ki99, ki100, ki102, ki108, ki109, ki110, ki111, ki116, ki119, ki120, ki121, ki124, ki128, ki200, ki240, ki255, ki480, ki680, ki999, ki1000, ki7776, ki252645135, ki858993459, ki1431655765, klm1000000000, klm1000000, klm1, kl0, kl1, kl2, kl3, kl4, kl5, kl12, kl60, kl99, kl999, kl1000, kl1000000, kl1000000000, kl4294967295, kl1442695040888963407, kl6364136223846793005, hK_sI, hN_sI, hI_sI, hL_sI, hR_sI, hZ_sI, hC_sI, hS_sI, hK_sL, hN_sL, hI_sL, hL_sL, hR_sL, hZ_sL, hC_sL, hS_sL, hK_sR, hN_sR, hI_sR, hL_sR, hR_sR, hZ_sR, hC_sR, hS_sR, hK_sA, hN_sA, hI_sA, hL_sA, hR_sA, hK_sLA, hN_sLA, hI_sLA, hL_sLA, hR_sLA, up2_at, vu_at, decide_true, decide_false, nI_ltN, nI_leN, nI_eqN, nI_eq0, nI_lt0N, nI_le0N, nI_gt0N, nI_le00N, nI_add, nI_mul, bB_0, bB_n, d_le, d_nle, d_lt, d_nlt, d_eq, d_ne, u_k0, u_k1, u_k4, u_k5, u_k7, u_k8, u_k11, u_k14, u_k21, u_k24, u_k33, u_k36, u_k40, u_k50, u_k51, u_k62, u_k64, u_k66, u_k68, u_k70, b200_1, e3, lN_divN, u_gI36, u_pI36, u_rf36_1, u_rf36_2, u_rf36_3, u_rf36_4, u_rf36_5, u_rf36_6, u_rf36_7, u_rf36_8, u_rf36_9, u_rf36_10, u_k36, u_k48, u_n48, u_ld48, u_st48, u_at48, u_pt48, u_rs48, u_al48, u_gI50, u_gL50, u_pL50, u_pI50, u_rf50_0, u_rf50_1, u_rf50_2, u_rf50_3, u_rf50_4, u_rf50_5, u_rf50_6, u_rf50_7, u_rf50_8, u_k50]
    rw [e1, hdiv, lN_mul]
    exact hleaf (D + 0) h κ acc _ _ _ _ _ _ Q c hκ hc hKle (fun h1 q hh => hQ h1 (q.mono sLy_1) (fun i hi => ⟨q.i 57 i rfl, q.i 58 i rfl⟩) hh)
  | succ r ih =>
    intro l hl D h κ acc Q c hκ hc hQ
    obtain ⟨f, n5, hn, k2, ht, k1, hs, he, a1, a2, a3⟩ := c
    have c : CT h n s o t ct sg sh c2 g2 w2 tk E := ⟨f, n5, hn, k2, ht, k1, hs, he, a1, a2, a3⟩
    have l5 : l < 5 := by omega
    have ln : l < n := by omega
    have hst0 := hs l ln
    rw [show D + (r + 1) + 10 = (D + r + 10) + 1 from by omega, Ev_body 10 rfl rfl]
    have key : ∀ k j (x9 : Option Value), j + k = c2 l → ∀ h1, Sm sLy h h1 → (∀ i, i < l → hI h1 57 i = hI h 57 i ∧ hI h1 58 i = hI h 58 i) → HC h1 (itN (fun j s => foK c2 lf r (l + 1) (va_up κ l j) s) j acc) → Ex none (D + r + 10) 200 (blk 200 8) [some (.ref 50), some (.int (nI l)), some (.int (nI (ixF ct l (tF tk κ)))), some (.long (lN (pdN w2 κ l))), none, some (.long (lN (pdN sh (tF tk κ) l))), none, some (.int (nI (pst ct l))), some (.int (nI j)), x9] [] h1 Q := by
      intro k
      induction k with
      | zero =>
        intro j x9 hj h1 q e1 e3
        have hj : j = c2 l := by omega
        subst hj
        have cc := c.sm q
        have f1 := cc.1
        have kd1 := (cc.2.2.2.1.1 l l5).1
        have kd2 := (cc.2.2.2.1.1 l l5).2
        rw [b200_8]
        simp (disch := first | (simp only [Fr_sI, Fr_sL, Fr_sA, Fr_sLA]; assumption) | assumption | decide | omega | (simp only [List.length_cons, List.length_nil, List.drop_succ_cons, List.drop_zero, catS, Value.category, Nat.reduceAdd, Nat.reduceLT, Nat.reduceLeDiff, Nat.le_refl, and_self, and_true, true_and]; done) | (simp only [hK_sI, hN_sI, hK_sL, hN_sL, hK_sR, hN_sR, hK_sA, hN_sA, hK_sLA, hN_sLA]; first | assumption | omega)) only [ex_iadd, ex_isub, ex_imul, ex_iand, ex_ior, ex_ixor, ex_ishl, ex_ishr, ex_iushr, ex_ladd, ex_lsub, ex_lmul, ex_idiv, ex_irem, ex_ldiv, ex_lrem, ex_lshl, ex_lushr, ex_lcmp, ex_i2l, ex_l2i, ex_i2b, ex_iconst, ex_lconst, ex_null, ex_iload, ex_lload, ex_aload, ex_istore, ex_astore, ex_astoreN, ex_lstore, ex_iinc, ex_dup_int, ex_pop_int, ex_dup_ref, ex_pop_ref, ex_dup2l, ex_dup2ri, ex_pop2, ex_goto, ex_jsr, ex_ifnull, ex_ifnullN, ex_ifnn, ex_ifnnN, ex_calls, ex_callv, ex_ireturn, ex_zB, ex_z0, ex_z1, ex_lreturn, ex_vreturn, ex_obj, ex_icmp_eq, ex_icmp_ne, ex_icmp_lt, ex_icmp_ge, ex_icmp_gt, ex_icmp_le, ex_ifc_eq, ex_ifc_ne, ex_ifc_lt, ex_ifc_ge, ex_ifc_gt, ex_ifc_le, lget_cons0, lget_cons, lset1, lclr, isL, List.length_cons, List.length_nil, List.take, List.drop, List.take_zero, List.drop_zero, List.reverse_cons, List.reverse_nil, List.nil_append, List.cons_append, catS, Value.category, tl_some, tl_none, rf_some, rf_none, Int.toNat_natCast, Int.reduceToNat, Nat.reduceAdd, Nat.reduceLT, Nat.reduceLeDiff, Nat.reduceEqDiff, and_true, true_and, and_self, eq_self, reduceIte, false_and, and_false, Bool.false_eq_true, Bool.true_eq_false, or_true, true_or, or_false, false_or, not_true_eq_false, not_false_eq_true, ite_true, ite_false, if_true, if_false, linit, largs, List.replicate, Nat.reduceSub, Nat.sub_self, kim1000000000, kim2, kim1, ki0, ki1, ki2, ki3, ki4, ki5, ki6, ki7, ki8, ki9, ki10, ki12, ki15, ki16, ki20, ki24, ki30, ki32, ki33, ki38, ki40, ki41, ki42, ki43, ki44, ki45, ki46, ki47, ki48, ki50, ki52, ki57, ki58, ki59, ki60, ki61, ki62, ki63, ki91, ki93, ki97, ki99, ki100, ki102, ki108, ki109, ki110, ki111, ki116, ki119, ki120, ki121, ki124, ki128, ki200, ki240, ki255, ki480, ki680, ki999, ki1000, ki7776, ki252645135, ki858993459, ki1431655765, klm1000000000, klm1000000, klm1, kl0, kl1, kl2, kl3, kl4, kl5, kl12, kl60, kl99, kl999, kl1000, kl1000000, kl1000000000, kl4294967295, kl1442695040888963407, kl6364136223846793005, hK_sI, hN_sI, hI_sI, hL_sI, hR_sI, hZ_sI, hC_sI, hS_sI, hK_sL, hN_sL, hI_sL, hL_sL, hR_sL, hZ_sL, hC_sL, hS_sL, hK_sR, hN_sR, hI_sR, hL_sR, hR_sR, hZ_sR, hC_sR, hS_sR, hK_sA, hN_sA, hI_sA, hL_sA, hR_sA, hK_sLA, hN_sLA, hI_sLA, hL_sLA, hR_sLA, up2_at, vu_at, decide_true, decide_false, nI_ltN, nI_leN, nI_eqN, nI_eq0, nI_lt0N, nI_le0N, nI_gt0N, nI_le00N, nI_add, nI_mul, bB_0, bB_n, d_le, d_nle, d_lt, d_nlt, d_eq, d_ne, u_k0, u_k1, u_k4, u_k5, u_k7, u_k8, u_k11, u_k14, u_k21, u_k24, u_k33, u_k36, u_k40, u_k50, u_k51, u_k62, u_k64, u_k66, u_k68, u_k70, b200_9, kd1, u_gI36, u_pI36, u_rf36_1, u_rf36_2, u_rf36_3, u_rf36_4, u_rf36_5, u_rf36_6, u_rf36_7, u_rf36_8, u_rf36_9, u_rf36_10, u_k36, u_gI50, u_gL50, u_pL50, u_pI50, u_rf50_0, u_rf50_1, u_rf50_2, u_rf50_3, u_rf50_4, u_rf50_5, u_rf50_6, u_rf50_7, u_rf50_8, u_k50, u_rf51_0, u_rf51_1, u_rf51_2, u_k51, u_k52, u_n52, u_ld52, u_st52, u_at52, u_pt52, u_al52]
        exact hQ h1 q e1 e3
      | succ k ihk =>
        intro j x9 hj h1 q e1 e3
        have cc := c.sm q
        have f1 := cc.1
        have kd1 := (cc.2.2.2.1.1 l l5).1
        have kd2 := (cc.2.2.2.1.1 l l5).2
        have j6 : j < 6 := by omega
        obtain ⟨kg, kw⟩ := cc.2.2.2.1.2 l l5 j (by omega)
        obtain ⟨kt, kt2⟩ := cc.2.2.2.2.1 l ln j (by omega)
        have kct6 := (cc.2.2.2.2.2.1.1 l l5).2
        have ksh := (cc.2.2.2.2.2.1.2 l l5 (tk l j) kt2).2
        have t6 : tk l j < 6 := by omega
        have hw2 := sm_ge (n := 0) (f := w2 l) (c2 l) (show j < c2 l by omega)
        rw [h22 l ln] at hw2
        have hw1 := sm_ge (n := 0) (f := sh l) (ct l) kt2
        rw [h12 l ln] at hw1
        have hix : ixF ct l (tF tk κ) + tk l j * pst ct l = ixF ct (l + 1) (tF tk (va_up κ l j)) := by
          rw [tF_up]
          unfold ixF
          rw [sm, vu_at, if_pos rfl]
          congr 1
          exact sm_congr (fun i hi => by rw [vu_at, if_neg (by omega)])
        have hpa : pdN w2 κ l * w2 l j = pdN w2 (va_up κ l j) (l + 1) := pdN_up.symm
        have hpb : pdN sh (tF tk κ) l * sh l (tk l j) = pdN sh (tF tk (va_up κ l j)) (l + 1) := by rw [tF_up, pdN_up]
        rw [b200_8]
        simp (disch := first | (simp only [Fr_sI, Fr_sL, Fr_sA, Fr_sLA]; assumption) | assumption | decide | omega | (simp only [List.length_cons, List.length_nil, List.drop_succ_cons, List.drop_zero, catS, Value.category, Nat.reduceAdd, Nat.reduceLT, Nat.reduceLeDiff, Nat.le_refl, and_self, and_true, true_and]; done) | (simp only [hK_sI, hN_sI, hK_sL, hN_sL, hK_sR, hN_sR, hK_sA, hN_sA, hK_sLA, hN_sLA]; first | assumption | omega)) only [ex_iadd, ex_isub, ex_imul, ex_iand, ex_ior, ex_ixor, ex_ishl, ex_ishr, ex_iushr, ex_ladd, ex_lsub, ex_lmul, ex_idiv, ex_irem, ex_ldiv, ex_lrem, ex_lshl, ex_lushr, ex_lcmp, ex_i2l, ex_l2i, ex_i2b, ex_iconst, ex_lconst, ex_null, ex_iload, ex_lload, ex_aload, ex_istore, ex_astore, ex_astoreN, ex_lstore, ex_iinc, ex_dup_int, ex_pop_int, ex_dup_ref, ex_pop_ref, ex_dup2l, ex_dup2ri, ex_pop2, ex_goto, ex_jsr, ex_ifnull, ex_ifnullN, ex_ifnn, ex_ifnnN, ex_calls, ex_callv, ex_ireturn, ex_zB, ex_z0, ex_z1, ex_lreturn, ex_vreturn, ex_obj, ex_icmp_eq, ex_icmp_ne, ex_icmp_lt, ex_icmp_ge, ex_icmp_gt, ex_icmp_le, ex_ifc_eq, ex_ifc_ne, ex_ifc_lt, ex_ifc_ge, ex_ifc_gt, ex_ifc_le, lget_cons0, lget_cons, lset1, lclr, isL, List.length_cons, List.length_nil, List.take, List.drop, List.take_zero, List.drop_zero, List.reverse_cons, List.reverse_nil, List.nil_append, List.cons_append, catS, Value.category, tl_some, tl_none, rf_some, rf_none, Int.toNat_natCast, Int.reduceToNat, Nat.reduceAdd, Nat.reduceLT, Nat.reduceLeDiff, Nat.reduceEqDiff, and_true, true_and, and_self, eq_self, reduceIte, false_and, and_false, Bool.false_eq_true, Bool.true_eq_false, or_true, true_or, or_false, false_or, not_true_eq_false, not_false_eq_true, ite_true, ite_false, if_true, if_false, linit, largs, List.replicate, Nat.reduceSub, Nat.sub_self, kim1000000000, kim2, kim1, ki0, ki1, ki2, ki3, ki4, ki5, ki6, ki7, ki8, ki9, ki10, ki12, ki15, ki16, ki20, ki24, ki30, ki32, ki33, ki38, ki40, ki41, ki42, ki43, ki44, ki45, ki46, ki47, ki48, ki50, ki52, ki57, ki58, ki59, ki60, ki61, ki62, ki63, ki91, ki93, ki97, ki99, ki100, ki102, ki108, ki109, ki110, ki111, ki116, ki119, ki120, ki121, ki124, ki128, ki200, ki240, ki255, ki480, ki680, ki999, ki1000, ki7776, ki252645135, ki858993459, ki1431655765, klm1000000000, klm1000000, klm1, kl0, kl1, kl2, kl3, kl4, kl5, kl12, kl60, kl99, kl999, kl1000, kl1000000, kl1000000000, kl4294967295, kl1442695040888963407, kl6364136223846793005, hK_sI, hN_sI, hI_sI, hL_sI, hR_sI, hZ_sI, hC_sI, hS_sI, hK_sL, hN_sL, hI_sL, hL_sL, hR_sL, hZ_sL, hC_sL, hS_sL, hK_sR, hN_sR, hI_sR, hL_sR, hR_sR, hZ_sR, hC_sR, hS_sR, hK_sA, hN_sA, hI_sA, hL_sA, hR_sA, hK_sLA, hN_sLA, hI_sLA, hL_sLA, hR_sLA, up2_at, vu_at, decide_true, decide_false, nI_ltN, nI_leN, nI_eqN, nI_eq0, nI_lt0N, nI_le0N, nI_gt0N, nI_le00N, nI_add, nI_mul, bB_0, bB_n, d_le, d_nle, d_lt, d_nlt, d_eq, d_ne, u_k0, u_k1, u_k4, u_k5, u_k7, u_k8, u_k11, u_k14, u_k21, u_k24, u_k33, u_k36, u_k40, u_k50, u_k51, u_k62, u_k64, u_k66, u_k68, u_k70, kd1, mc6, kt, ev_signOf_51, ev_shareOf_51, ev_shareOf_40, kg, kw, ksh, nI_l, lN_mul, hix, hpa, hpb, u_gI36, u_pI36, u_rf36_1, u_rf36_2, u_rf36_3, u_rf36_4, u_rf36_5, u_rf36_6, u_rf36_7, u_rf36_8, u_rf36_9, u_rf36_10, u_k36, u_rf40_0, u_rf40_1, u_rf40_2, u_k40, u_gI50, u_gL50, u_pL50, u_pI50, u_rf50_0, u_rf50_1, u_rf50_2, u_rf50_3, u_rf50_4, u_rf50_5, u_rf50_6, u_rf50_7, u_rf50_8, u_k50, u_rf51_0, u_rf51_1, u_rf51_2, u_k51, u_k52, u_n52, u_ld52, u_st52, u_at52, u_pt52, u_al52, u_k56, u_n56, u_ld56, u_st56, u_at56, u_pt56, u_al56, u_k57, u_n57, u_ld57, u_st57, u_at57, u_pt57, u_al57, u_k58, u_n58, u_ld58, u_st58, u_at58, u_pt58, u_al58]
        have q1 : Sm sLy h1 (sI (sI h1 57 l (nI j)) 58 l (g2 l j)) := ((Sm.rf _ _).wI (a := 57) _ rfl).wI (a := 58) _ rfl
        have q2 : Sm s578 h1 (sI (sI h1 57 l (nI j)) 58 l (g2 l j)) := ((Sm.rf _ _).wI (a := 57) _ rfl).wI (a := 58) _ rfl
        refine ih (l + 1) (by omega) D _ (va_up κ l j) _ _ (cc.sm q1) (fun i hi => ?_) (hst _ _ _ q2 e3) (fun h2 q3 g1 g3 => ?_)
        · simp only [hK_sI, hN_sI, hI_sI, hL_sI, hR_sI, hZ_sI, hC_sI, hS_sI, hK_sL, hN_sL, hI_sL, hL_sL, hR_sL, hZ_sL, hC_sL, hS_sL, hK_sR, hN_sR, hI_sR, hL_sR, hR_sR, hZ_sR, hC_sR, hS_sR, hK_sA, hN_sA, hI_sA, hL_sA, hR_sA, hK_sLA, hN_sLA, hI_sLA, hL_sLA, hR_sLA, up2_at, vu_at, vu_at]
          by_cases z : i = l
          · subst z
            simp
            omega
          · have := hκ i (by omega)
            simp [z, e1 i (by omega), this]
        · simp (disch := first | (simp only [Fr_sI, Fr_sL, Fr_sA, Fr_sLA]; assumption) | assumption | decide | omega | (simp only [List.length_cons, List.length_nil, List.drop_succ_cons, List.drop_zero, catS, Value.category, Nat.reduceAdd, Nat.reduceLT, Nat.reduceLeDiff, Nat.le_refl, and_self, and_true, true_and]; done) | (simp only [hK_sI, hN_sI, hK_sL, hN_sL, hK_sR, hN_sR, hK_sA, hN_sA, hK_sLA, hN_sLA]; first | assumption | omega)) only [ex_iadd, ex_isub, ex_imul, ex_iand, ex_ior, ex_ixor, ex_ishl, ex_ishr, ex_iushr, ex_ladd, ex_lsub, ex_lmul, ex_idiv, ex_irem, ex_ldiv, ex_lrem, ex_lshl, ex_lushr, ex_lcmp, ex_i2l, ex_l2i, ex_i2b, ex_iconst, ex_lconst, ex_null, ex_iload, ex_lload, ex_aload, ex_istore, ex_astore, ex_astoreN, ex_lstore, ex_iinc, ex_dup_int, ex_pop_int, ex_dup_ref, ex_pop_ref, ex_dup2l, ex_dup2ri, ex_pop2, ex_goto, ex_jsr, ex_ifnull, ex_ifnullN, ex_ifnn, ex_ifnnN, ex_calls, ex_callv, ex_ireturn, ex_zB, ex_z0, ex_z1, ex_lreturn, ex_vreturn, ex_obj, ex_icmp_eq, ex_icmp_ne, ex_icmp_lt, ex_icmp_ge, ex_icmp_gt, ex_icmp_le, ex_ifc_eq, ex_ifc_ne, ex_ifc_lt, ex_ifc_ge, ex_ifc_gt, ex_ifc_le, lget_cons0, lget_cons, lset1, lclr, isL, List.length_cons, List.length_nil, List.take, List.drop, List.take_zero, List.drop_zero, List.reverse_cons, List.reverse_nil, List.nil_append, List.cons_append, catS, Value.category, tl_some, tl_none, rf_some, rf_none, Int.toNat_natCast, Int.reduceToNat, Nat.reduceAdd, Nat.reduceLT, Nat.reduceLeDiff, Nat.reduceEqDiff, and_true, true_and, and_self, eq_self, reduceIte, false_and, and_false, Bool.false_eq_true, Bool.true_eq_false, or_true, true_or, or_false, false_or, not_true_eq_false, not_false_eq_true, ite_true, ite_false, if_true, if_false, linit, largs, List.replicate, Nat.reduceSub, Nat.sub_self, kim1000000000, kim2, kim1, ki0, ki1, ki2, ki3, ki4, ki5, ki6, ki7, ki8, ki9, ki10, ki12, ki15, ki16, ki20, ki24, ki30, ki32, ki33, ki38, ki40, ki41, ki42, ki43, ki44, ki45, ki46, ki47, ki48, ki50, ki52, ki57, ki58, ki59, ki60, ki61, ki62, ki63, ki91, ki93, ki97, ki99, ki100, ki102, ki108, ki109, ki110, ki111, ki116, ki119, ki120, ki121, ki124, ki128, ki200, ki240, ki255, ki480, ki680, ki999, ki1000, ki7776, ki252645135, ki858993459, ki1431655765, klm1000000000, klm1000000, klm1, kl0, kl1, kl2, kl3, kl4, kl5, kl12, kl60, kl99, kl999, kl1000, kl1000000, kl1000000000, kl4294967295, kl1442695040888963407, kl6364136223846793005, hK_sI, hN_sI, hI_sI, hL_sI, hR_sI, hZ_sI, hC_sI, hS_sI, hK_sL, hN_sL, hI_sL, hL_sL, hR_sL, hZ_sL, hC_sL, hS_sL, hK_sR, hN_sR, hI_sR, hL_sR, hR_sR, hZ_sR, hC_sR, hS_sR, hK_sA, hN_sA, hI_sA, hL_sA, hR_sA, hK_sLA, hN_sLA, hI_sLA, hL_sLA, hR_sLA, up2_at, vu_at, decide_true, decide_false, nI_ltN, nI_leN, nI_eqN, nI_eq0, nI_lt0N, nI_le0N, nI_gt0N, nI_le00N, nI_add, nI_mul, bB_0, bB_n, d_le, d_nle, d_lt, d_nlt, d_eq, d_ne, u_k0, u_k1, u_k4, u_k5, u_k7, u_k8, u_k11, u_k14, u_k21, u_k24, u_k33, u_k36, u_k40, u_k50, u_k51, u_k62, u_k64, u_k66, u_k68, u_k70]
          refine ihk (j + 1) _ (by omega) h2 ((q.tr q1).tr q3) (fun i hi => ?_) g3
          have := g1 i (by omega)
          simp only [hK_sI, hN_sI, hI_sI, hL_sI, hR_sI, hZ_sI, hC_sI, hS_sI, hK_sL, hN_sL, hI_sL, hL_sL, hR_sL, hZ_sL, hC_sL, hS_sL, hK_sR, hN_sR, hI_sR, hL_sR, hR_sR, hZ_sR, hC_sR, hS_sR, hK_sA, hN_sA, hI_sA, hL_sA, hR_sA, hK_sLA, hN_sLA, hI_sLA, hL_sLA, hR_sLA, up2_at, vu_at] at this
          have z : ¬ i = l := by omega
          simp [z] at this
          exact ⟨this.1.trans (e1 i hi).1, this.2.trans (e1 i hi).2⟩
    simp (disch := first | (simp only [Fr_sI, Fr_sL, Fr_sA, Fr_sLA]; assumption) | assumption | decide | omega | (simp only [List.length_cons, List.length_nil, List.drop_succ_cons, List.drop_zero, catS, Value.category, Nat.reduceAdd, Nat.reduceLT, Nat.reduceLeDiff, Nat.le_refl, and_self, and_true, true_and]; done) | (simp only [hK_sI, hN_sI, hK_sL, hN_sL, hK_sR, hN_sR, hK_sA, hN_sA, hK_sLA, hN_sLA]; first | assumption | omega)) only [ex_iadd, ex_isub, ex_imul, ex_iand, ex_ior, ex_ixor, ex_ishl, ex_ishr, ex_iushr, ex_ladd, ex_lsub, ex_lmul, ex_idiv, ex_irem, ex_ldiv, ex_lrem, ex_lshl, ex_lushr, ex_lcmp, ex_i2l, ex_l2i, ex_i2b, ex_iconst, ex_lconst, ex_null, ex_iload, ex_lload, ex_aload, ex_istore, ex_astore, ex_astoreN, ex_lstore, ex_iinc, ex_dup_int, ex_pop_int, ex_dup_ref, ex_pop_ref, ex_dup2l, ex_dup2ri, ex_pop2, ex_goto, ex_jsr, ex_ifnull, ex_ifnullN, ex_ifnn, ex_ifnnN, ex_calls, ex_callv, ex_ireturn, ex_zB, ex_z0, ex_z1, ex_lreturn, ex_vreturn, ex_obj, ex_icmp_eq, ex_icmp_ne, ex_icmp_lt, ex_icmp_ge, ex_icmp_gt, ex_icmp_le, ex_ifc_eq, ex_ifc_ne, ex_ifc_lt, ex_ifc_ge, ex_ifc_gt, ex_ifc_le, lget_cons0, lget_cons, lset1, lclr, isL, List.length_cons, List.length_nil, List.take, List.drop, List.take_zero, List.drop_zero, List.reverse_cons, List.reverse_nil, List.nil_append, List.cons_append, catS, Value.category, tl_some, tl_none, rf_some, rf_none, Int.toNat_natCast, Int.reduceToNat, Nat.reduceAdd, Nat.reduceLT, Nat.reduceLeDiff, Nat.reduceEqDiff, and_true, true_and, and_self, eq_self, reduceIte, false_and, and_false, Bool.false_eq_true, Bool.true_eq_false, or_true, true_or, or_false, false_or, not_true_eq_false, not_false_eq_true, ite_true, ite_false, if_true, if_false, linit, largs, List.replicate, Nat.reduceSub, Nat.sub_self, kim1000000000, kim2, kim1, ki0, ki1, ki2, ki3, ki4, ki5, ki6, ki7, ki8, ki9, ki10, ki12, ki15, ki16, ki20, ki24, ki30, ki32, ki33, ki38, ki40, ki41, ki42, ki43, ki44, ki45, ki46, ki47, ki48, ki50, ki52, ki57, ki58, ki59, ki60, ki61, ki62, ki63, ki91, ki93, ki97, ki99, ki100, ki102, ki108, ki109, ki110, ki111, ki116, ki119, ki120, ki121, ki124, ki128, ki200, ki240, ki255, ki480, ki680, ki999, ki1000, ki7776, ki252645135, ki858993459, ki1431655765, klm1000000000, klm1000000, klm1, kl0, kl1, kl2, kl3, kl4, kl5, kl12, kl60, kl99, kl999, kl1000, kl1000000, kl1000000000, kl4294967295, kl1442695040888963407, kl6364136223846793005, hK_sI, hN_sI, hI_sI, hL_sI, hR_sI, hZ_sI, hC_sI, hS_sI, hK_sL, hN_sL, hI_sL, hL_sL, hR_sL, hZ_sL, hC_sL, hS_sL, hK_sR, hN_sR, hI_sR, hL_sR, hR_sR, hZ_sR, hC_sR, hS_sR, hK_sA, hN_sA, hI_sA, hL_sA, hR_sA, hK_sLA, hN_sLA, hI_sLA, hL_sLA, hR_sLA, up2_at, vu_at, decide_true, decide_false, nI_ltN, nI_leN, nI_eqN, nI_eq0, nI_lt0N, nI_le0N, nI_gt0N, nI_le00N, nI_add, nI_mul, bB_0, bB_n, d_le, d_nle, d_lt, d_nlt, d_eq, d_ne, u_k0, u_k1, u_k4, u_k5, u_k7, u_k8, u_k11, u_k14, u_k21, u_k24, u_k33, u_k36, u_k40, u_k50, u_k51, u_k62, u_k64, u_k66, u_k68, u_k70, b200_0, hn, u_gI36, u_pI36, u_rf36_1, u_rf36_2, u_rf36_3, u_rf36_4, u_rf36_5, u_rf36_6, u_rf36_7, u_rf36_8, u_rf36_9, u_rf36_10, u_k36, u_gI50, u_gL50, u_pL50, u_pI50, u_rf50_0, u_rf50_1, u_rf50_2, u_rf50_3, u_rf50_4, u_rf50_5, u_rf50_6, u_rf50_7, u_rf50_8, u_k50]
    simp (disch := first | (simp only [Fr_sI, Fr_sL, Fr_sA, Fr_sLA]; assumption) | assumption | decide | omega | (simp only [List.length_cons, List.length_nil, List.drop_succ_cons, List.drop_zero, catS, Value.category, Nat.reduceAdd, Nat.reduceLT, Nat.reduceLeDiff, Nat.le_refl, and_self, and_true, true_and]; done) | (simp only [hK_sI, hN_sI, hK_sL, hN_sL, hK_sR, hN_sR, hK_sA, hN_sA, hK_sLA, hN_sLA]; first | assumption | omega)) only [ex_iadd, ex_isub, ex_imul, ex_iand, ex_ior, ex_ixor, ex_ishl, ex_ishr, ex_iushr, ex_ladd, ex_lsub, ex_lmul, ex_idiv, ex_irem, ex_ldiv, ex_lrem, ex_lshl, ex_lushr, ex_lcmp, ex_i2l, ex_l2i, ex_i2b, ex_iconst, ex_lconst, ex_null, ex_iload, ex_lload, ex_aload, ex_istore, ex_astore, ex_astoreN, ex_lstore, ex_iinc, ex_dup_int, ex_pop_int, ex_dup_ref, ex_pop_ref, ex_dup2l, ex_dup2ri, ex_pop2, ex_goto, ex_jsr, ex_ifnull, ex_ifnullN, ex_ifnn, ex_ifnnN, ex_calls, ex_callv, ex_ireturn, ex_zB, ex_z0, ex_z1, ex_lreturn, ex_vreturn, ex_obj, ex_icmp_eq, ex_icmp_ne, ex_icmp_lt, ex_icmp_ge, ex_icmp_gt, ex_icmp_le, ex_ifc_eq, ex_ifc_ne, ex_ifc_lt, ex_ifc_ge, ex_ifc_gt, ex_ifc_le, lget_cons0, lget_cons, lset1, lclr, isL, List.length_cons, List.length_nil, List.take, List.drop, List.take_zero, List.drop_zero, List.reverse_cons, List.reverse_nil, List.nil_append, List.cons_append, catS, Value.category, tl_some, tl_none, rf_some, rf_none, Int.toNat_natCast, Int.reduceToNat, Nat.reduceAdd, Nat.reduceLT, Nat.reduceLeDiff, Nat.reduceEqDiff, and_true, true_and, and_self, eq_self, reduceIte, false_and, and_false, Bool.false_eq_true, Bool.true_eq_false, or_true, true_or, or_false, false_or, not_true_eq_false, not_false_eq_true, ite_true, ite_false, if_true, if_false, linit, largs, List.replicate, Nat.reduceSub, Nat.sub_self, kim1000000000, kim2, kim1, ki0, ki1, ki2, ki3, ki4, ki5, ki6, ki7, ki8, ki9, ki10, ki12, ki15, ki16, ki20, ki24, ki30, ki32, ki33, ki38, ki40, ki41, ki42, ki43, ki44, ki45, ki46, ki47, ki48, ki50, ki52, ki57, ki58, ki59, ki60, ki61, ki62, ki63, ki91, ki93, ki97, ki99, ki100, ki102, ki108, ki109, ki110, ki111, ki116, ki119, ki120, ki121, ki124, ki128, ki200, ki240, ki255, ki480, ki680, ki999, ki1000, ki7776, ki252645135, ki858993459, ki1431655765, klm1000000000, klm1000000, klm1, kl0, kl1, kl2, kl3, kl4, kl5, kl12, kl60, kl99, kl999, kl1000, kl1000000, kl1000000000, kl4294967295, kl1442695040888963407, kl6364136223846793005, hK_sI, hN_sI, hI_sI, hL_sI, hR_sI, hZ_sI, hC_sI, hS_sI, hK_sL, hN_sL, hI_sL, hL_sL, hR_sL, hZ_sL, hC_sL, hS_sL, hK_sR, hN_sR, hI_sR, hL_sR, hR_sR, hZ_sR, hC_sR, hS_sR, hK_sA, hN_sA, hI_sA, hL_sA, hR_sA, hK_sLA, hN_sLA, hI_sLA, hL_sLA, hR_sLA, up2_at, vu_at, decide_true, decide_false, nI_ltN, nI_leN, nI_eqN, nI_eq0, nI_lt0N, nI_le0N, nI_gt0N, nI_le00N, nI_add, nI_mul, bB_0, bB_n, d_le, d_nle, d_lt, d_nlt, d_eq, d_ne, u_k0, u_k1, u_k4, u_k5, u_k7, u_k8, u_k11, u_k14, u_k21, u_k24, u_k33, u_k36, u_k40, u_k50, u_k51, u_k62, u_k64, u_k66, u_k68, u_k70, b200_7, hst0, u_gI36, u_pI36, u_rf36_1, u_rf36_2, u_rf36_3, u_rf36_4, u_rf36_5, u_rf36_6, u_rf36_7, u_rf36_8, u_rf36_9, u_rf36_10, u_k36, u_k45, u_n45, u_ld45, u_st45, u_at45, u_pt45, u_al45, u_gI50, u_gL50, u_pL50, u_pI50, u_rf50_0, u_rf50_1, u_rf50_2, u_rf50_3, u_rf50_4, u_rf50_5, u_rf50_6, u_rf50_7, u_rf50_8, u_k50]
    exact key (c2 l) 0 _ (by omega) h (Sm.rf _ _) (fun _ _ => ⟨rfl, rfl⟩) hc
end
