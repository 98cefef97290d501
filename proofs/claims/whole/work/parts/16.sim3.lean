/-! New cells, constants, answers, calls. -/
section
variable {p : Program} {l : Launch} {e : Env} {R : Room} {s : State} {m : MethodId} {args : Array Value} {below : List Frame} {meth : Method} {c : Code} {Q : State → Prop} {o rt nL : Nat} {ini : Bool} {bytes : ByteArray} {pcs : List Nat} {A : Nat → Prop} {D : va_G} {cA : Nat → ClassId} {ρ0 : Nat → Nat} {h0 hE : Hp} {scr : Option (Nat × (Nat → Int32))} {cf : Nat → List Value → Hp → Option XR} {B : Nat → List XI} {vE : Option Value} {n : Nat}

theorem room_of (X : xCtx p R s m meth c o nL ini bytes A D cA ρ0 h0 hE scr) {ρ : Nat → Nat} {H : Heap} {locs : List Loc} {cells slots : Nat} {lsA : Array Slot} {ls : LL} {st : List Value} {h h' : Hp} (S : zSt s nL A D cA ρ0 h0 hE ρ H locs cells slots lsA ls st h) (hm : le3 h' hE) {a b : Nat} (h1 : hC h' = hC h + a) (h2 : hS h' = hS h + b) : cells + a ≤ R.cells ∧ slots + b ≤ R.slots := by
  have e1 := X.2.2.2.2.2.2.2.2.1.1
  have e2 := X.2.2.2.2.2.2.2.2.1.2
  have e3 := S.2.2.2.2.2.2.2.2.1
  have e4 := S.2.2.2.2.2.2.2.2.2
  have e5 := hm.1
  have e6 := hm.2.1
  omega
theorem same_cA {U : State} {cA : Nat → ClassId} {D : va_G} {cA' : ClassId} {ty : FieldType} {t : Nat} (hK : va_K D xcl (xty cA) U) (h1 : (xty cA)[t]? = some (cA t, ty)) (hK2 : va_K D xcl (xty cA ++ [(cA', ty)]) U) : cA' = cA t := by
  have a := (hK.2 t _ h1).2
  have b := (hK2.2 5 (cA', ty) rfl).2
  cases ty with
  | object C =>
    obtain ⟨_, _, _, _, _, a⟩ := a
    obtain ⟨_, _, _, _, _, b⟩ := b
    exact Option.some.inj (b.symm.trans a)
  | _ => exact Option.some.inj (b.symm.trans a)
theorem mk_next (IH : xIH p l e R s m args below meth c Q o rt nL ini bytes pcs A D cA ρ0 h0 hE cf scr B vE n) {ρ : Nat → Nat} {H : Heap} {locs : List Loc} {cells slots pc : Nat} {lsA : Array Slot} {is : List XI} {ls : LL} {st0 st : List Value} {h : Hp} (S : zSt s nL A D cA ρ0 h0 hE ρ H locs cells slots lsA ls st0 h) (hs : ∀ v ∈ st, v ∈ st0) (hlt : hZ h < SCR) {kd nn sl q : Nat} {H1 : Heap} {e1 : va_E} (hc : xchk o rt ini bytes pcs pc is = true) (hq : xRun cf scr B n is ls (.ref (hZ h) :: st) (hNew h kd nn sl) = some (vE, hE)) (he : cellR (va_up ρ (hZ h) q) cA (hNew h kd nn sl) (hZ h) = e1) (hP : va_P D xcl (wsR ρ cA h ++ [(q, e1)]) H1) (hD : va_D A (wsR ρ cA h ++ [(q, e1)])) (hS : va_S A s.heap H1 locs) : W p l e R s m args below meth c H1 locs (cells + 1) (slots + sl) Q (F0 m pc lsA (.ref q :: st.map (vR ρ))) := by
  have K := IH _ _ _ _ hq _ _ _ _ _ _ _ hc (S.mk hlt hs he hP hD hS)
  refine W.eq ?_ K
  have e2 : st.map (vR (va_up ρ (hZ h) q)) = st.map (vR ρ) := vRs_agr (agr_new hlt) (fun v hv => S.2.2.1 v (hs v hv))
  rw [List.map_cons, e2]
  show F0 _ _ _ (_ :: _) = F0 _ _ _ (_ :: _)
  congr 2
  simp [vR, va_up]
theorem sx_new (X : xCtx p R s m meth c o nL ini bytes A D cA ρ0 h0 hE scr) (IH : xIH p l e R s m args below meth c Q o rt nL ini bytes pcs A D cA ρ0 h0 hE cf scr B vE n) {ρ : Nat → Nat} {H : Heap} {locs : List Loc} {cells slots pc : Nat} {lsA : Array Slot} {is : List XI} {ls : LL} {st : List Value} {h : Hp} (S : zSt s nL A D cA ρ0 h0 hE ρ H locs cells slots lsA ls st h) (hcf : cfMono cf) {idx ci : Nat} (hx : xlu xCt o idx = some ci) (hci : ci < 12) (hd : decode bytes pc = .ok (.new idx, 3)) (hc : xchk o rt ini bytes pcs (pc + 3) is = true) (hq : xnRun cf scr B vE hE n (xStep cf scr B (.new ci, Nx ci) is ls st h)) : W p l e R s m args below meth c H locs cells slots Q (F0 m pc lsA (st.map (vR ρ))) := by
  simp only [xStep] at hq
  split at hq
  · exact hq.elim
  · rename_i hlt
    have hlt : hZ h < SCR := Nat.lt_of_not_le hlt
    have hq : xRun cf scr B n is ls (.ref (hZ h) :: st) (hNew h (ci + 1) 0 (Nx ci)) = some (vE, hE) := hq
    have hr := room_of X S (xRun_mono hcf _ _ _ _ _ _ _ hq) (a := 1) (b := Nx ci) rfl rfl
    exact va_new (fs := (List.range (Nx ci)).map (fun j => defaultValue (tyx ci j))) X.1 X.2.1 (G_hts X.2.2.2.2.1 args) (ws_in hci) (tyx ci) (Tx_ty ci hci) X.2.2.2.1 (gw X (wC_in hx) (by first | rfl | simp [goodWord, Jvm.Cond.onTables, Jvm.Cond.keeps, Jvm.Cond.steady])) (gw X (in_tbl (wN_ok ci hci).1) (by first | rfl | simp [goodWord, Jvm.Cond.onTables, Jvm.Cond.keeps, Jvm.Cond.steady])) (gw X (in_tbl (wN_ok ci hci).2) (by first | rfl | simp [goodWord, Jvm.Cond.onTables, Jvm.Cond.keeps, Jvm.Cond.steady])) X.2.2.2.2.2.1 S.2.2.2.2.1 S.2.2.2.2.2.1 S.2.2.2.2.2.2.1 X.2.2.2.2.2.2.1 (xcl_at hci) (fun j hj => by simp [vp_V, hj]) hr.1 hr.2 hd (fun q H1 hP1 hD1 hS1 => mk_next IH S (fun _ h => h) hlt hc hq (new_obj hci) hP1 hD1 hS1)
theorem wA_ok : Jvm.Cond.arrayClass .int ∈ lw_tbl ∧ Jvm.Cond.arrayClass .byte ∈ lw_tbl ∧ Jvm.Cond.arrayClass .boolean ∈ lw_tbl ∧ Jvm.Cond.arrayClass .long ∈ lw_tbl := ⟨in_tbl (by decide +kernel), in_tbl (by decide +kernel), in_tbl (by decide +kernel), in_tbl (by decide +kernel)⟩
theorem wO_ok : Jvm.Cond.arrayOver (.object "DiceLaw$Text") ∈ lw_tbl := in_tbl (by decide +kernel)
theorem sx_newa (X : xCtx p R s m meth c o nL ini bytes A D cA ρ0 h0 hE scr) (IH : xIH p l e R s m args below meth c Q o rt nL ini bytes pcs A D cA ρ0 h0 hE cf scr B vE n) {ρ : Nat → Nat} {H : Heap} {locs : List Loc} {cells slots pc : Nat} {lsA : Array Slot} {is : List XI} {ls : LL} {st : List Value} {h : Hp} (S : zSt s nL A D cA ρ0 h0 hE ρ H locs cells slots lsA ls st h) (hcf : cfMono cf) {t : ArrayType} (hd : decode bytes pc = .ok (.newarray t, 2)) (hc : xchk o rt ini bytes pcs (pc + 2) is = true) (hq : xnRun cf scr B vE hE n (xStep cf scr B (.newarray t, 0) is ls st h)) : W p l e R s m args below meth c H locs cells slots Q (F0 m pc lsA (st.map (vR ρ))) := by
  simp only [xStep] at hq
  split at hq
  · rename_i k r
    split at hq
    · exact hq.elim
    rename_i hno
    have hlt : hZ h < SCR := Nat.lt_of_not_le (fun z => hno (Or.inl z))
    have hn8 : k.toNatClampNeg ≤ 8000 := Nat.le_of_not_lt (fun z => hno (Or.inr (Or.inr (Or.inl z))))
    have ha0 : akind t ≠ 0 := fun z => hno (Or.inr (Or.inr (Or.inr z)))
    cases t <;> first | (exact absurd rfl ha0) | skip
    · have hq : xRun cf scr B n is ls (.ref (hZ h) :: r) (hNew h KZ k.toNatClampNeg k.toNatClampNeg) = some (vE, hE) := hq
      have hr := room_of X S (xRun_mono hcf _ _ _ _ _ _ _ hq) (a := 1) (b := k.toNatClampNeg) rfl rfl
      refine va_newa (atype := .boolean) (ty := .boolean) (a0 := (k.toNatClampNeg, .inl (fun _ => 0))) X.1 X.2.1 (gw X (wA_ok.2.2.1) (by first | rfl | simp [goodWord])) rfl X.2.2.2.2.2.1 S.2.2.2.2.1 S.2.2.2.2.2.1 S.2.2.2.2.2.2.1 X.2.2.2.2.2.2.1 (fun _ => rfl) (fun z => hno (Or.inr (Or.inl z))) rfl (by have := hn8; simp only [componentBytes]; omega) hr.1 hr.2 hd (fun q cA' H1 hK1 hP1 hD1 hS1 => ?_)
      rw [same_cA (t := 2) X.2.2.2.2.2.1 rfl hK1] at hP1 hD1
      exact mk_next IH S (fun _ h => List.mem_cons_of_mem _ h) hlt hc hq new_arr.2.2.1 hP1 hD1 hS1
    · have hq : xRun cf scr B n is ls (.ref (hZ h) :: r) (hNew h KB k.toNatClampNeg k.toNatClampNeg) = some (vE, hE) := hq
      have hr := room_of X S (xRun_mono hcf _ _ _ _ _ _ _ hq) (a := 1) (b := k.toNatClampNeg) rfl rfl
      refine va_newa (atype := .byte) (ty := .byte) (a0 := (k.toNatClampNeg, .inl (fun _ => 0))) X.1 X.2.1 (gw X (wA_ok.2.1) (by first | rfl | simp [goodWord])) rfl X.2.2.2.2.2.1 S.2.2.2.2.1 S.2.2.2.2.2.1 S.2.2.2.2.2.2.1 X.2.2.2.2.2.2.1 (fun _ => rfl) (fun z => hno (Or.inr (Or.inl z))) rfl (by have := hn8; simp only [componentBytes]; omega) hr.1 hr.2 hd (fun q cA' H1 hK1 hP1 hD1 hS1 => ?_)
      rw [same_cA (t := 1) X.2.2.2.2.2.1 rfl hK1] at hP1 hD1
      exact mk_next IH S (fun _ h => List.mem_cons_of_mem _ h) hlt hc hq new_arr.2.1 hP1 hD1 hS1
    · have hq : xRun cf scr B n is ls (.ref (hZ h) :: r) (hNew h KI k.toNatClampNeg k.toNatClampNeg) = some (vE, hE) := hq
      have hr := room_of X S (xRun_mono hcf _ _ _ _ _ _ _ hq) (a := 1) (b := k.toNatClampNeg) rfl rfl
      refine va_newa (atype := .int) (ty := .int) (a0 := (k.toNatClampNeg, .inl (fun _ => 0))) X.1 X.2.1 (gw X (wA_ok.1) (by first | rfl | simp [goodWord])) rfl X.2.2.2.2.2.1 S.2.2.2.2.1 S.2.2.2.2.2.1 S.2.2.2.2.2.2.1 X.2.2.2.2.2.2.1 (fun _ => rfl) (fun z => hno (Or.inr (Or.inl z))) rfl (by have := hn8; simp only [componentBytes]; omega) hr.1 hr.2 hd (fun q cA' H1 hK1 hP1 hD1 hS1 => ?_)
      rw [same_cA (t := 0) X.2.2.2.2.2.1 rfl hK1] at hP1 hD1
      exact mk_next IH S (fun _ h => List.mem_cons_of_mem _ h) hlt hc hq new_arr.1 hP1 hD1 hS1
    · have hq : xRun cf scr B n is ls (.ref (hZ h) :: r) (hNew h KJ k.toNatClampNeg k.toNatClampNeg) = some (vE, hE) := hq
      have hr := room_of X S (xRun_mono hcf _ _ _ _ _ _ _ hq) (a := 1) (b := k.toNatClampNeg) rfl rfl
      refine va_newa (atype := .long) (ty := .long) (a0 := (k.toNatClampNeg, .inr (.inl (fun _ => 0)))) X.1 X.2.1 (gw X (wA_ok.2.2.2) (by first | rfl | simp [goodWord])) rfl X.2.2.2.2.2.1 S.2.2.2.2.1 S.2.2.2.2.2.1 S.2.2.2.2.2.2.1 X.2.2.2.2.2.2.1 (fun _ => rfl) (fun z => hno (Or.inr (Or.inl z))) rfl (by have := hn8; simp only [componentBytes]; omega) hr.1 hr.2 hd (fun q cA' H1 hK1 hP1 hD1 hS1 => ?_)
      rw [same_cA (t := 3) X.2.2.2.2.2.1 rfl hK1] at hP1 hD1
      exact mk_next IH S (fun _ h => List.mem_cons_of_mem _ h) hlt hc hq new_arr.2.2.2.1 hP1 hD1 hS1
  · exact hq.elim
theorem sx_anewa (X : xCtx p R s m meth c o nL ini bytes A D cA ρ0 h0 hE scr) (IH : xIH p l e R s m args below meth c Q o rt nL ini bytes pcs A D cA ρ0 h0 hE cf scr B vE n) {ρ : Nat → Nat} {H : Heap} {locs : List Loc} {cells slots pc : Nat} {lsA : Array Slot} {is : List XI} {ls : LL} {st : List Value} {h : Hp} (S : zSt s nL A D cA ρ0 h0 hE ρ H locs cells slots lsA ls st h) (hcf : cfMono cf) {idx : Nat} (hx : xlu xCt o idx = some 8) (hAO : va_AO "DiceLaw$Text" s) (hd : decode bytes pc = .ok (.anewarray idx, 3)) (hc : xchk o rt ini bytes pcs (pc + 3) is = true) (hq : xnRun cf scr B vE hE n (xStep cf scr B (.anewarray 8, 0) is ls st h)) : W p l e R s m args below meth c H locs cells slots Q (F0 m pc lsA (st.map (vR ρ))) := by
  simp only [xStep] at hq
  split at hq
  · rename_i k r
    split at hq
    · exact hq.elim
    rename_i hno
    have hlt : hZ h < SCR := Nat.lt_of_not_le (fun z => hno (Or.inl z))
    have hn8 : k.toNatClampNeg ≤ 8000 := Nat.le_of_not_lt (fun z => hno (Or.inr (Or.inr z)))
    have hq : xRun cf scr B n is ls (.ref (hZ h) :: r) (hNew h KT k.toNatClampNeg k.toNatClampNeg) = some (vE, hE) := hq
    have hr := room_of X S (xRun_mono hcf _ _ _ _ _ _ _ hq) (a := 1) (b := k.toNatClampNeg) rfl rfl
    refine va_newq (C := RX8) X.1 X.2.1 X.2.2.2.1 (gw X (wC_in hx) (by first | rfl | simp [goodWord, Jvm.Cond.onTables, Jvm.Cond.keeps, Jvm.Cond.steady])) hAO X.2.2.2.2.2.1 S.2.2.2.2.1 S.2.2.2.2.2.1 S.2.2.2.2.2.2.1 X.2.2.2.2.2.2.1 (fun z => hno (Or.inr (Or.inl z))) rfl (by omega) hr.1 hr.2 hd (fun q cA' H1 hK1 hP1 hD1 hS1 => ?_)
    rw [same_cA (t := 4) X.2.2.2.2.2.1 rfl hK1] at hP1 hD1
    exact mk_next IH S (fun _ h => List.mem_cons_of_mem _ h) hlt hc hq new_arr.2.2.2.2 hP1 hD1 hS1
  · exact hq.elim
theorem sx_ldc (X : xCtx p R s m meth c o nL ini bytes A D cA ρ0 h0 hE scr) (IH : xIH p l e R s m args below meth c Q o rt nL ini bytes pcs A D cA ρ0 h0 hE cf scr B vE n) {ρ : Nat → Nat} {H : Heap} {locs : List Loc} {cells slots pc : Nat} {lsA : Array Slot} {is : List XI} {ls : LL} {st : List Value} {h : Hp} (S : zSt s nL A D cA ρ0 h0 hE ρ H locs cells slots lsA ls st h) {idx : Nat} {v : Int} (hx : xlu xKt o idx = some (v, 0)) (hd : decode bytes pc = .ok (.ldc idx, 2)) (hc : xchk o rt ini bytes pcs (pc + 2) is = true) (hq : xnRun cf scr B vE hE n (xStep cf scr B (.iconst v, 0) is ls st h)) : W p l e R s m args below meth c H locs cells slots Q (F0 m pc lsA (st.map (vR ρ))) := by
  simp only [xStep] at hq
  have hw : Jvm.Cond.constant (rn o) idx (Int32.ofInt v) ∈ lw_tbl := by simpa [wK] using wK_in hx
  exact lv_ldc X.1 X.2.1 X.2.2.2.1 (gw X hw (by first | rfl | simp [goodWord, Jvm.Cond.onTables, Jvm.Cond.keeps, Jvm.Cond.steady])) hd (IH _ _ _ _ hq _ _ _ _ _ _ _ hc (S.stk (al_i S.2.2.1)))
theorem sx_ldcw (X : xCtx p R s m meth c o nL ini bytes A D cA ρ0 h0 hE scr) (IH : xIH p l e R s m args below meth c Q o rt nL ini bytes pcs A D cA ρ0 h0 hE cf scr B vE n) {ρ : Nat → Nat} {H : Heap} {locs : List Loc} {cells slots pc : Nat} {lsA : Array Slot} {is : List XI} {ls : LL} {st : List Value} {h : Hp} (S : zSt s nL A D cA ρ0 h0 hE ρ H locs cells slots lsA ls st h) {idx : Nat} {v : Int} (hx : xlu xKt o idx = some (v, 0)) (hd : decode bytes pc = .ok (.ldc_w idx, 3)) (hc : xchk o rt ini bytes pcs (pc + 3) is = true) (hq : xnRun cf scr B vE hE n (xStep cf scr B (.iconst v, 0) is ls st h)) : W p l e R s m args below meth c H locs cells slots Q (F0 m pc lsA (st.map (vR ρ))) := by
  simp only [xStep] at hq
  have hw : Jvm.Cond.constant (rn o) idx (Int32.ofInt v) ∈ lw_tbl := by simpa [wK] using wK_in hx
  exact lv_ldcw X.1 X.2.1 X.2.2.2.1 (gw X hw (by first | rfl | simp [goodWord, Jvm.Cond.onTables, Jvm.Cond.keeps, Jvm.Cond.steady])) hd (IH _ _ _ _ hq _ _ _ _ _ _ _ hc (S.stk (al_i S.2.2.1)))
theorem sx_ldc2 (X : xCtx p R s m meth c o nL ini bytes A D cA ρ0 h0 hE scr) (IH : xIH p l e R s m args below meth c Q o rt nL ini bytes pcs A D cA ρ0 h0 hE cf scr B vE n) {ρ : Nat → Nat} {H : Heap} {locs : List Loc} {cells slots pc : Nat} {lsA : Array Slot} {is : List XI} {ls : LL} {st : List Value} {h : Hp} (S : zSt s nL A D cA ρ0 h0 hE ρ H locs cells slots lsA ls st h) {idx : Nat} {v : Int} (hx : xlu xKt o idx = some (v, 1)) (hd : decode bytes pc = .ok (.ldc2_w idx, 3)) (hc : xchk o rt ini bytes pcs (pc + 3) is = true) (hq : xnRun cf scr B vE hE n (xStep cf scr B (.sipush v, 0) is ls st h)) : W p l e R s m args below meth c H locs cells slots Q (F0 m pc lsA (st.map (vR ρ))) := by
  simp only [xStep] at hq
  have hw : Jvm.Cond.constantLong (rn o) idx (Int64.ofInt v) ∈ lw_tbl := by simpa [wK] using wK_in hx
  exact lv_ldc2 X.1 X.2.1 X.2.2.2.1 (gw X hw (by first | rfl | simp [goodWord, Jvm.Cond.onTables, Jvm.Cond.keeps, Jvm.Cond.steady])) hd (IH _ _ _ _ hq _ _ _ _ _ _ _ hc (S.stk (al_l S.2.2.1)))
theorem xSt_ok : ∀ {o idx j : Nat}, xlu xSt o idx = some j → o = 11 ∧ ((idx = 26 ∧ j = 1) ∨ (idx = 32 ∧ j = 2)) := by
  intro o idx j h
  have h1 := xlu_mem h
  simp only [xSt, List.mem_cons, List.not_mem_nil, or_false, Prod.mk.injEq] at h1
  omega
theorem sx_ldcS (X : xCtx p R s m meth c o nL ini bytes A D cA ρ0 h0 hE scr) (IH : xIH p l e R s m args below meth c Q o rt nL ini bytes pcs A D cA ρ0 h0 hE cf scr B vE n) {ρ : Nat → Nat} {H : Heap} {locs : List Loc} {cells slots pc : Nat} {lsA : Array Slot} {is : List XI} {ls : LL} {st : List Value} {h : Hp} (S : zSt s nL A D cA ρ0 h0 hE ρ H locs cells slots lsA ls st h) {idx j : Nat} (hx : xlu xSt o idx = some j) (hd : decode bytes pc = .ok (.ldc idx, 2)) (hc : xchk o rt ini bytes pcs (pc + 2) is = true) (hq : xnRun cf scr B vE hE n (xStep cf scr B (.ldc j, 0) is ls st h)) : W p l e R s m args below meth c H locs cells slots Q (F0 m pc lsA (st.map (vR ρ))) := by
  simp only [xStep] at hq
  have hv : vOK h (.ref (SCR + j)) := vOK_ref (Or.inr (Nat.le_add_right _ _))
  have hg : ρ (SCR + j) = ρ0 (SCR + j) := S.2.2.2.2.2.2.2.1.1 _ (Or.inr (Nat.le_add_right _ _))
  have K := IH _ _ _ _ hq _ _ _ _ _ _ _ hc (S.stk (al_c hv S.2.2.1))
  obtain ⟨rfl, ⟨rfl, rfl⟩ | ⟨rfl, rfl⟩⟩ := xSt_ok hx
  · exact va_ldcS (q := ρ (SCR + 1)) X.1 X.2.1 (own := RX11) X.2.2.2.1 (by rw [hg]; exact X.2.2.2.2.2.2.2.2.2.1.2.1) hd K
  · exact va_ldcS (q := ρ (SCR + 2)) X.1 X.2.1 (own := RX11) X.2.2.2.1 (by rw [hg]; exact X.2.2.2.2.2.2.2.2.2.1.2.2.1) hd K
def xEnd (p : Program) (l : Launch) (e : Env) (R : Room) (s : State) (m : MethodId) (args : Array Value) (below : List Frame) (meth : Method) (c : Code) (Q : State → Prop) (rt nL : Nat) (bytes : ByteArray) (A : Nat → Prop) (D : va_G) (cA : Nat → ClassId) (ρ0 : Nat → Nat) (h0 hE : Hp) (vE : Option Value) : Prop :=
  ∀ (ρ : Nat → Nat) (H : Heap) (locs : List Loc) (cells slots pc : Nat) (lsA : Array Slot) (ls : LL), zSt s nL A D cA ρ0 h0 hE ρ H locs cells slots lsA ls [] hE →
    (∀ x : Int32, vE = some (.int x) → (rt = 1 ∨ (rt = 2 ∧ (x = 0 ∨ x = 1))) → decode bytes pc = .ok (.ireturn, 1) → W p l e R s m args below meth c H locs cells slots Q (F0 m pc lsA [.int x])) ∧
    (∀ x : Int64, vE = some (.long x) → rt = 3 → decode bytes pc = .ok (.lreturn, 1) → W p l e R s m args below meth c H locs cells slots Q (F0 m pc lsA [.long x])) ∧
    (vE = none → rt = 0 → decode bytes pc = .ok (.return_, 1) → W p l e R s m args below meth c H locs cells slots Q (F0 m pc lsA []))
theorem sx_ireturn (X : xCtx p R s m meth c o nL ini bytes A D cA ρ0 h0 hE scr) (IH : xIH p l e R s m args below meth c Q o rt nL ini bytes pcs A D cA ρ0 h0 hE cf scr B vE n) {ρ : Nat → Nat} {H : Heap} {locs : List Loc} {cells slots pc : Nat} {lsA : Array Slot} {is : List XI} {ls : LL} {st : List Value} {h : Hp} (S : zSt s nL A D cA ρ0 h0 hE ρ H locs cells slots lsA ls st h) (hEnd : xEnd p l e R s m args below meth c Q rt nL bytes A D cA ρ0 h0 hE vE) {kk : Nat} (hrt : (rt = 1 ∧ kk = 0) ∨ (rt = 2 ∧ kk = 1)) (hd : decode bytes pc = .ok (.ireturn, 1)) (hq : xnRun cf scr B vE hE n (xStep cf scr B (.ireturn, kk) is ls st h)) : W p l e R s m args below meth c H locs cells slots Q (F0 m pc lsA (st.map (vR ρ))) := by
  simp only [xStep] at hq
  split at hq
  · rename_i x
    split at hq
    · rename_i hx
      cases hq
      refine (hEnd _ _ _ _ _ pc _ _ (S.stk (fun _ h => by cases h))).1 x rfl ?_ hd
      rcases hrt with ⟨q, -⟩ | ⟨q, rfl⟩
      · exact Or.inl q
      · exact Or.inr ⟨q, hx.resolve_left (by decide)⟩
    · exact hq.elim
  · exact hq.elim
theorem sx_lreturn (X : xCtx p R s m meth c o nL ini bytes A D cA ρ0 h0 hE scr) (IH : xIH p l e R s m args below meth c Q o rt nL ini bytes pcs A D cA ρ0 h0 hE cf scr B vE n) {ρ : Nat → Nat} {H : Heap} {locs : List Loc} {cells slots pc : Nat} {lsA : Array Slot} {is : List XI} {ls : LL} {st : List Value} {h : Hp} (S : zSt s nL A D cA ρ0 h0 hE ρ H locs cells slots lsA ls st h) (hEnd : xEnd p l e R s m args below meth c Q rt nL bytes A D cA ρ0 h0 hE vE) (hrt : rt = 3) (hd : decode bytes pc = .ok (.lreturn, 1)) (hq : xnRun cf scr B vE hE n (xStep cf scr B (.lreturn, 0) is ls st h)) : W p l e R s m args below meth c H locs cells slots Q (F0 m pc lsA (st.map (vR ρ))) := by
  simp only [xStep] at hq
  split at hq
  · rename_i x
    cases hq
    exact (hEnd _ _ _ _ _ pc _ _ (S.stk (fun _ h => by cases h))).2.1 x rfl hrt hd
  · exact hq.elim
theorem sx_vreturn (X : xCtx p R s m meth c o nL ini bytes A D cA ρ0 h0 hE scr) (IH : xIH p l e R s m args below meth c Q o rt nL ini bytes pcs A D cA ρ0 h0 hE cf scr B vE n) {ρ : Nat → Nat} {H : Heap} {locs : List Loc} {cells slots pc : Nat} {lsA : Array Slot} {is : List XI} {ls : LL} {st : List Value} {h : Hp} (S : zSt s nL A D cA ρ0 h0 hE ρ H locs cells slots lsA ls st h) (hEnd : xEnd p l e R s m args below meth c Q rt nL bytes A D cA ρ0 h0 hE vE) (hrt : rt = 0) (hd : decode bytes pc = .ok (.return_, 1)) (hq : xnRun cf scr B vE hE n (xStep cf scr B (.return_, 0) is ls st h)) : W p l e R s m args below meth c H locs cells slots Q (F0 m pc lsA (st.map (vR ρ))) := by
  simp only [xStep] at hq
  split at hq
  · cases hq
    exact (hEnd _ _ _ _ _ pc _ _ (S.stk (fun _ h => by cases h))).2.2 rfl hrt hd
  · exact hq.elim
end
