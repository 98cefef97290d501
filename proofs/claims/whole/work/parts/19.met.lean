/-! Every method's contract, by the depth of calls. -/
theorem largs_sl (ρ : Nat → Nat) : ∀ (vs : List Value), (lg_sl (vs.map (vR ρ))).length = (largs vs).length
  | [] => rfl
  | v :: vs => by
    have ih := largs_sl ρ vs
    have e : lg_sl ((v :: vs).map (vR ρ)) = (if (vR ρ v).category = 2 then [Slot.val (vR ρ v), Slot.second] else [Slot.val (vR ρ v)]) ++ lg_sl (vs.map (vR ρ)) := rfl
    rw [e, vR_cat]
    unfold largs
    split <;> simp [ih] <;> omega
theorem lget_app {a b : LL} {i : Nat} {v : Value} (h : lget (a ++ b) i = some v) : lget a i = some v ∨ ∃ j, lget b j = some v := by
  unfold lget at h ⊢
  by_cases hi : i < a.length
  · rw [List.getElem?_append_left hi] at h
    exact Or.inl h
  · rw [List.getElem?_append_right (by omega)] at h
    exact Or.inr ⟨_, h⟩
theorem lget_none {n j : Nat} {v : Value} : ¬ lget (List.replicate n none) j = some v := by
  unfold lget
  rw [List.getElem?_replicate]
  split <;> simp_all
theorem largs_mem (ρ : Nat → Nat) : ∀ (vs : List Value) (k i : Nat) (v : Value), lget (largs vs) i = some v → (i + k, vR ρ v) ∈ lv_args k (vs.map (vR ρ)) ∧ v ∈ vs
  | [], _, i, v, h => by simp [largs, lget] at h
  | w :: vs, k, i, v, h => by
    unfold largs at h
    rw [List.map_cons, lv_args, vR_cat]
    split at h
    · rename_i hc
      rw [if_pos hc]
      match i, h with
      | 0, h =>
        rw [lget_cons0] at h
        cases h
        exact ⟨by simp, List.mem_cons_self⟩
      | 1, h => rw [lget_cons, lget_cons0] at h; cases h
      | i + 2, h =>
        rw [lget_cons, lget_cons] at h
        have ih := largs_mem ρ vs (k + 2) i v h
        rw [show i + (k + 2) = i + 2 + k from by omega] at ih
        exact ⟨List.mem_cons_of_mem _ ih.1, List.mem_cons_of_mem _ ih.2⟩
    · rename_i hc
      rw [if_neg hc]
      match i, h with
      | 0, h =>
        rw [lget_cons0] at h
        cases h
        exact ⟨by simp, List.mem_cons_self⟩
      | i + 1, h =>
        rw [lget_cons] at h
        have ih := largs_mem ρ vs (k + 1) i v h
        rw [show i + (k + 1) = i + 1 + k from by omega] at ih
        exact ⟨List.mem_cons_of_mem _ ih.1, List.mem_cons_of_mem _ ih.2⟩
theorem linit_lv {ρ : Nat → Nat} {vs : List Value} {nL : Nat} (hl : (largs vs).length ≤ nL) : lvR ((lg_sl (vs.map (vR ρ)) ++ List.replicate (nL - (lg_sl (vs.map (vR ρ))).length) Slot.unset).toArray) nL ρ (linit nL vs) ∧ ∀ i v, lget (linit nL vs) i = some v → v ∈ vs := by
  have h1 := lv_entry (vs.map (vR ρ)) (n := nL) (by rw [largs_sl]; exact hl)
  have h2 : ∀ i v, lget (linit nL vs) i = some v → lget (largs vs) i = some v := by
    intro i v hv
    rcases lget_app hv with q | ⟨j, q⟩
    · exact q
    · exact absurd q lget_none
  refine ⟨⟨h1.1, h1.2.1, by unfold linit; simp; omega, fun i v hv => ?_⟩, fun i v hv => (largs_mem ρ vs 0 i v (h2 i v hv)).2⟩
  exact h1.2.2 (i, vR ρ v) (largs_mem ρ vs 0 i v (h2 i v hv)).1
set_option maxRecDepth 100000 in
theorem own14 : ∀ k, k < 280 → (eOwn (mOf k) = 14 → k = 277 ∨ k = 278 ∨ k = 279) ∧ (eOwn (mOf k) = 12 → k = 274 ∨ k = 275) ∧ (eSt (mOf k) ≠ 3 → (ePcs (mOf k))[0]? = some 0) := by decide +kernel
theorem mOf_big {k : Nat} (h : 280 ≤ k) : mOf k = me0 := by
  have L : mt.length = 280 := by decide +kernel
  unfold mOf
  rw [List.getD_eq_getElem?_getD, List.getElem?_eq_none (by omega)]
  rfl
theorem mFacts (k : Nat) : (eOwn (mOf k) = 14 → k = 277 ∨ k = 278 ∨ k = 279) ∧ (eOwn (mOf k) = 12 → k = 274 ∨ k = 275) ∧ (eSt (mOf k) ≠ 3 → (ePcs (mOf k))[0]? = some 0) := by
  rcases Nat.lt_or_ge k 280 with h | h
  · exact own14 k h
  · rw [mOf_big h]
    exact ⟨fun q => absurd q (by decide), fun q => absurd q (by decide), fun _ => by decide⟩
theorem law275 : eY (mOf 275) = yL_law := by decide +kernel
theorem ret_of (k : Nat) : (eT (mOf k) = 1 → eRet (mOf k) = some .int) ∧ (eT (mOf k) = 2 → eRet (mOf k) = some .boolean) ∧ (eT (mOf k) = 3 → eRet (mOf k) = some .long) ∧ (eT (mOf k) = 0 → eRet (mOf k) = none) := by
  unfold eRet
  refine ⟨fun h => by simp only [h], fun h => by simp only [h], fun h => by simp only [h], fun h => by simp only [h]⟩
set_option maxHeartbeats 1000000 in
theorem met_k (l : Launch) (h83 : StatOK 83) {cf : Nat → List Value → Hp → Option XR} (hcf : cfMono cf) {d N k : Nat} (hcs : ∀ (k : Nat) (vs : List Value) (h : Hp) (v : Option Value) (h1 : Hp), cf k vs h = some (v, h1) → (k = 277 ∨ k = 278 ∨ k = 279 → pMath k vs h = some (v, h1)) ∧ (¬ (k = 277 ∨ k = 278 ∨ k = 279 ∨ k = 274) → eY (mOf k) ≠ yL_law ∧ xCon l d k vs h v h1)) {vs : List Value} {h h1 : Hp} {v : Option Value} (hl : eY (mOf k) ≠ yL_law) (h3 : eSt (mOf k) ≠ 3) (hk : ¬ (k = 277 ∨ k = 278 ∨ k = 279 ∨ k = 274)) (hlen : (largs vs).length ≤ eL (mOf k)) (hr : xRun cf none (blk k) N (blk k 0) (linit (eL (mOf k)) vs) [] h = some (v, h1)) : xCon l (d + 1) k vs h v h1 := by
  intro hw hOK D cA ρ sz
  obtain ⟨f1, f2, f3, f4, f5, f6, f7, f8, f9⟩ := gfact h3 hl
  obtain ⟨m1, m2, m3⟩ := mFacts k
  have hplain : Jvm.plainName (eY (mOf k)).cls = true := f7.resolve_right (fun q => hk (by have := m1 q; omega))
  have hmono := xRun_mono hcf _ _ _ _ _ _ _ hr
  refine Met.ofW (cc := eB (mOf k)) (maxL := eL (mOf k)) (ret := eRet (mOf k)) (ws' := []) hplain rfl ?_
  intro p e s m args below meth c s₁ B hml hv
  obtain ⟨rfl, hsz, hP, hK, hD0, hI, hAO, hStr⟩ := hv
  subst hsz
  have hown : s.vm.findClass (rn (eOwn (mOf k))) = some m.cls := by rw [← f1]; exact findClass_of_methodNamed B.named
  have hini : (eSt (mOf k) == 2) = true → meth.name = "<init>" := fun q => by
    rw [(name_of_methodNamed B.named B.method).1]
    exact f2 (by simpa using q)
  have hA : ∀ q, s.heap.size ≤ q → va_A (wsR ρ cA h) s.heap.size q := fun q z => Or.inr z
  have hC9 : hC h1 ≤ hC h + (headSpec [wCode k] (xRoom (d + 1) h h1)).room.cells ∧ hS h1 ≤ hS h + (headSpec [wCode k] (xRoom (d + 1) h h1)).room.slots := by
    have h8 := hmono.1
    have h9 := hmono.2.1
    show hC h1 ≤ hC h + (hC h1 - hC h) ∧ hS h1 ≤ hS h + (hS h1 - hS h)
    omega
  have X : xCtx p (headSpec [wCode k] (xRoom (d + 1) h h1)).room s m meth c (eOwn (mOf k)) (eL (mOf k)) (eSt (mOf k) == 2) (eB (mOf k)) (va_A (wsR ρ cA h) s.heap.size) D cA ρ h h1 none := ⟨B.exec, B.bytes, hml, hown, hI, hK, hA, hini, hC9, hStr, fun q hq => by cases hq⟩
  obtain ⟨lv1, lv2⟩ := linit_lv (ρ := ρ) hlen
  rw [lg_entry_eq]
  have S : zSt s (eL (mOf k)) (va_A (wsR ρ cA h) s.heap.size) D cA ρ h h1 ρ s.heap [] 0 0 ((lg_sl (vs.map (vR ρ)) ++ List.replicate (eL (mOf k) - (lg_sl (vs.map (vR ρ))).length) Slot.unset).toArray) (linit (eL (mOf k)) vs) [] h :=
    ⟨lv1, hw, (fun _ z => by cases z), fun i x hx => hOK x (lv2 i x hx), hP, hD0.self, va_S.rf, ⟨fun _ _ => rfl, Nat.le_refl _⟩, rfl, rfl⟩
  have hEnd : xEnd p l e (headSpec [wCode k] (xRoom (d + 1) h h1)).room s m ((vs.map (vR ρ)).toArray) below meth c (MQ below (xPost D cA ρ h s.heap.size v h1) ((vs.map (vR ρ)).toArray) s (hC h1 - hC h) (hS h1 - hS h) (va_A (wsR ρ cA h) s.heap.size)) (eT (mOf k)) (eL (mOf k)) (eB (mOf k)) (va_A (wsR ρ cA h) s.heap.size) D cA ρ h h1 v := by
    intro ρ' H locs cells slots pc lsA ls S'
    have e1 : hC h1 - hC h = cells := by have := S'.2.2.2.2.2.2.2.2.1; omega
    have e2 : hS h1 - hS h = slots := by have := S'.2.2.2.2.2.2.2.2.2; omega
    rw [e1, e2]
    have post : ∀ t : State, t.heap = H → vKind v → xPost D cA ρ h s.heap.size v h1 ((vs.map (vR ρ)).toArray) s (.returned v) t := fun t ht hv => ⟨⟨ρ', rfl, hv, S'.2.2.2.2.2.2.2.1.1, S'.2.1, by rw [ht]; exact S'.2.2.2.2.1, S'.2.2.2.2.2.1⟩, S'.2.2.2.2.2.2.1.F ht⟩
    have hf := S'.2.2.2.2.2.2.1.2.2
    obtain ⟨r1, r2, r3, r4⟩ := ret_of k
    refine ⟨fun x hx hrt hd => ?_, fun x hx hrt hd => ?_, fun hx hrt hd => ?_⟩
    · subst hx
      have hv : vKind (some (.int x)) := fun y hy => by cases hy; exact Or.inl ⟨x, rfl⟩
      rcases hrt with q | ⟨q, q2⟩
      · exact W.iret B.exec B.bytes (B.returns.trans (r1 q)) (fun t ht _ => post t ht hv) hf hd B.notSynchronized
      · exact W.zret B.exec B.bytes (B.returns.trans (r2 q)) (by rcases q2 with rfl | rfl <;> rfl) (fun t ht _ => post t ht hv) hf hd B.notSynchronized
    · subst hx
      have hv : vKind (some (.long x)) := fun y hy => by cases hy; exact Or.inr ⟨x, rfl⟩
      exact W.lret B.exec B.bytes (B.returns.trans (r3 hrt)) (fun t ht _ => post t ht hv) hf hd B.notSynchronized
    · subst hx
      exact W.vret B.exec B.bytes (B.returns.trans (r4 hrt)) (fun t ht _ => post t ht (fun y hy => by cases hy)) hf hd B.notSynchronized
  have hB : ∀ (b t : Nat), (ePcs (mOf k))[b]? = some t → xchk (eOwn (mOf k)) (eT (mOf k)) (eSt (mOf k) == 2) (eB (mOf k)) (ePcs (mOf k)) t (blk k b) = true := fun b t q => mOf_blk k b t q
  have hcs2 : xcfOK l (headSpec [wCode k] (xRoom (d + 1) h h1)).room cf := ⟨d, Nat.le_refl _, by show 49 + 50 * (d + 1) ≤ 50 * (d + 1 + 1); omega, hcs⟩
  have hR1 : 1 ≤ (headSpec [wCode k] (xRoom (d + 1) h h1)).room.frames ∧ 40 ≤ (headSpec [wCode k] (xRoom (d + 1) h h1)).room.locals := ⟨by show 1 ≤ d + 1 + 1; omega, by show 40 ≤ 50 * (d + 1 + 1); omega⟩
  have main := xW X hAO hcf hcs2 hR1 hB hEnd h83 (fun n {ρ H locs cells slots pc lsA is ls st h idx nest} IH S hx hd hc hq => by
    have h12 := (mNest0 hx).2 rfl
    have := m2 h12
    rcases this with q | q
    · exact absurd q (fun z => hk (by omega))
    · exact absurd (by rw [q]; exact law275) hl) N
  exact main _ _ _ _ hr ρ s.heap [] 0 0 0 _ (hB 0 0 (m3 h3)) S
theorem met_all (l : Launch) (N : Nat) (h83 : StatOK 83) (hAm : ∀ (d : Nat) (vs : List Value) (h : Hp) (v : Option Value) (h1 : Hp), pAmong vs h = some (v, h1) → xCon l (d + 5) 83 vs h v h1) : ∀ d, ∀ (k : Nat) (vs : List Value) (h : Hp) (v : Option Value) (h1 : Hp), xCall N d k vs h = some (v, h1) → (k = 277 ∨ k = 278 ∨ k = 279 → pMath k vs h = some (v, h1)) ∧ (¬ (k = 277 ∨ k = 278 ∨ k = 279 ∨ k = 274) → eY (mOf k) ≠ yL_law ∧ xCon l (d + 5) k vs h v h1) := by
  intro d
  induction d with
  | zero =>
    intro k vs h v h1 hr
    simp [xCall] at hr
  | succ d ih =>
    intro k vs h v h1 hr
    rw [xCall] at hr
    split at hr
    · rename_i q
      exact ⟨fun _ => hr, fun z => absurd q (fun y => z (by omega))⟩
    · rename_i q
      refine ⟨fun z => absurd z q, fun z => ?_⟩
      split at hr
      · rename_i q2
        subst q2
        exact ⟨by decide +kernel, hAm (d + 1) vs h v h1 hr⟩
      · split at hr
        · rename_i q3
          exact absurd q3 (fun y => z (by omega))
        · split at hr
          · cases hr
          · rename_i q4
            simp only [not_or] at q4
            exact ⟨q4.1, met_k l h83 (xCall_mono N d) (d := d + 5) ih q4.1 q4.2.1 z (Nat.le_of_not_lt q4.2.2.1) hr⟩
