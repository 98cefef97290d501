/-! The interpreter is the machine's. -/
section
variable {p : Program} {l : Launch} {e : Env} {R : Room} {s : State} {m : MethodId} {args : Array Value} {below : List Frame} {meth : Method} {c : Code} {Q : State → Prop} {o rt nL : Nat} {ini : Bool} {bytes : ByteArray} {pcs : List Nat} {A : Nat → Prop} {D : va_G} {cA : Nat → ClassId} {ρ0 : Nat → Nat} {h0 hE : Hp} {scr : Option (Nat × (Nat → Int32))} {cf : Nat → List Value → Hp → Option XR} {B : Nat → List XI} {vE : Option Value} {n : Nat}

theorem wMath_ok : (Jvm.Cond.static Lib.MathLoose.max_long.x ∈ tables_1 ∧ Jvm.Cond.code Lib.MathLoose.max_long.x Lib.MathLoose.max_long.code 4 (some .long) ∈ tables_1) ∧ (Jvm.Cond.static Lib.MathLoose.min_long.x ∈ tables_1 ∧ Jvm.Cond.code Lib.MathLoose.min_long.x Lib.MathLoose.min_long.code 4 (some .long) ∈ tables_1) ∧ (Jvm.Cond.static Lib.Math.min.name ∈ tables_1 ∧ Jvm.Cond.code Lib.Math.min.name Lib.Math.min.code 2 (some .int) ∈ tables_1) ∧ Jvm.Cond.initialized "java/lang/Math" ∈ tables_1 := by decide +kernel
theorem yMath : eY (mOf 277) = Lib.MathLoose.max_long.x ∧ eY (mOf 279) = Lib.MathLoose.min_long.x ∧ eY (mOf 278) = Lib.Math.min.name ∧ eN (mOf 277) = 2 ∧ eN (mOf 278) = 2 ∧ eN (mOf 279) = 2 := by decide +kernel
theorem mNest : xMt.all (fun e => decide ((e.2.2.1 = 277 ∨ e.2.2.1 = 278 ∨ e.2.2.1 = 279 ∨ e.2.2.1 = 999 → e.2.2.2 = 0) ∧ (e.2.2.1 = 274 → e.1 = 12))) = true := by decide +kernel
theorem mNest0 {o idx k nest : Nat} (hx : xlu xMt o idx = some (k, nest)) : (k = 277 ∨ k = 278 ∨ k = 279 ∨ k = 999 → nest = 0) ∧ (k = 274 → o = 12) := by
  have h := List.all_eq_true.mp mNest _ (xlu_mem hx)
  exact of_decide_eq_true h
theorem take_rev2 {st : List Value} {x y : Value} (h : (st.take 2).reverse = [x, y]) : st = y :: x :: st.drop 2 := by
  have h1 : st.take 2 = [y, x] := by rw [← List.reverse_reverse (st.take 2), h]; rfl
  conv => lhs; rw [← List.take_append_drop 2 st, h1]
  rfl
theorem sx_math277 (X : xCtx p R s m meth c o nL ini bytes A D cA ρ0 h0 hE scr) (IH : xIH p l e R s m args below meth c Q o rt nL ini bytes pcs A D cA ρ0 h0 hE cf scr B vE n) {ρ : Nat → Nat} {H : Heap} {locs : List Loc} {cells slots pc : Nat} {lsA : Array Slot} {is : List XI} {ls : LL} {st : List Value} {h : Hp} (S : zSt s nL A D cA ρ0 h0 hE ρ H locs cells slots lsA ls st h) (hcs : xcfOK l R cf) (hcf : cfMono cf) (hR1 : 1 ≤ R.frames ∧ 40 ≤ R.locals) {idx nest : Nat} (hx : xlu xMt o idx = some (277, nest)) (hd : decode bytes pc = .ok (.invokestatic idx, 3)) (hc : xchk o rt ini bytes pcs (pc + 3) is = true) (hq : xnRun cf scr B vE hE n (xStep cf scr B (.invokestatic 277, 2) is ls st h)) : W p l e R s m args below meth c H locs cells slots Q (F0 m pc lsA (st.map (vR ρ))) := by
  simp only [xStep] at hq
  split at hq
  · rename_i hcs0
    split at hq
    · rename_i v h1 hcall
      obtain ⟨d, hd1, hd2, hcc⟩ := hcs
      have hpm := (hcc _ _ _ _ _ hcall).1 (by omega)
      have hq : xRun cf scr B n is ls (v.toList ++ st.drop 2) h1 = some (vE, hE) := hq
      have hm := hcf _ _ _ _ _ hcall
      have hroom := room_of X S (xRun_mono hcf _ _ _ _ _ _ _ hq) (a := hC h1 - hC h) (b := hS h1 - hS h) (by have := hm.1; omega) (by have := hm.2.1; omega)
      have hl0 := (link_of (args := args) X.2.2.2.2.1 hx (by decide)).1 ((mNest0 hx).1 (by omega))
      have hs8 := hcs0.1
      have hmem : ∀ x ∈ st.drop 2, vOK h x := fun x hx => S.2.2.1 x (List.mem_of_mem_drop hx)
      unfold pMath at hpm
      split at hpm
      · rename_i x y hargs
        have hst := take_rev2 hargs
        have hw9 : (((st.drop 2).map (vR ρ)).map fun v => v.category).sum + 15 ≤ R.locals := by rw [catS_map]; omega
        generalize st.drop 2 = r at *
        subst hst
        rw [if_pos rfl] at hpm
        cases hpm
        exact (va_mmax_long X.1 X.2.1 (X.2.2.1.trans S.1.1.symm) X.2.2.2.1 (by rw [← yMath.1]; exact hl0) (gw X (in_tbl wMath_ok.1.1) (by first | rfl | simp [goodWord, Jvm.Cond.onTables, Jvm.Cond.keeps, Jvm.Cond.steady])) (gw X (in_tbl wMath_ok.2.2.2) (by first | rfl | simp [goodWord, Jvm.Cond.onTables, Jvm.Cond.keeps, Jvm.Cond.steady])) (gw X (in_tbl wMath_ok.1.2) (by first | rfl | simp [goodWord, Jvm.Cond.onTables, Jvm.Cond.keeps, Jvm.Cond.steady])) hR1.1 (by omega) (by omega) (by omega) hd (IH _ _ _ _ hq _ _ _ _ _ _ _ hc (S.stk (al_l hmem))))
      · rename_i x y hargs
        have hst := take_rev2 hargs
        have hw9 : (((st.drop 2).map (vR ρ)).map fun v => v.category).sum + 15 ≤ R.locals := by rw [catS_map]; omega
        generalize st.drop 2 = r at *
        subst hst
        rw [if_neg (by decide)] at hpm
        cases hpm
      · cases hpm
    · exact hq.elim
  · exact hq.elim
theorem sx_math279 (X : xCtx p R s m meth c o nL ini bytes A D cA ρ0 h0 hE scr) (IH : xIH p l e R s m args below meth c Q o rt nL ini bytes pcs A D cA ρ0 h0 hE cf scr B vE n) {ρ : Nat → Nat} {H : Heap} {locs : List Loc} {cells slots pc : Nat} {lsA : Array Slot} {is : List XI} {ls : LL} {st : List Value} {h : Hp} (S : zSt s nL A D cA ρ0 h0 hE ρ H locs cells slots lsA ls st h) (hcs : xcfOK l R cf) (hcf : cfMono cf) (hR1 : 1 ≤ R.frames ∧ 40 ≤ R.locals) {idx nest : Nat} (hx : xlu xMt o idx = some (279, nest)) (hd : decode bytes pc = .ok (.invokestatic idx, 3)) (hc : xchk o rt ini bytes pcs (pc + 3) is = true) (hq : xnRun cf scr B vE hE n (xStep cf scr B (.invokestatic 279, 2) is ls st h)) : W p l e R s m args below meth c H locs cells slots Q (F0 m pc lsA (st.map (vR ρ))) := by
  simp only [xStep] at hq
  split at hq
  · rename_i hcs0
    split at hq
    · rename_i v h1 hcall
      obtain ⟨d, hd1, hd2, hcc⟩ := hcs
      have hpm := (hcc _ _ _ _ _ hcall).1 (by omega)
      have hq : xRun cf scr B n is ls (v.toList ++ st.drop 2) h1 = some (vE, hE) := hq
      have hm := hcf _ _ _ _ _ hcall
      have hroom := room_of X S (xRun_mono hcf _ _ _ _ _ _ _ hq) (a := hC h1 - hC h) (b := hS h1 - hS h) (by have := hm.1; omega) (by have := hm.2.1; omega)
      have hl0 := (link_of (args := args) X.2.2.2.2.1 hx (by decide)).1 ((mNest0 hx).1 (by omega))
      have hs8 := hcs0.1
      have hmem : ∀ x ∈ st.drop 2, vOK h x := fun x hx => S.2.2.1 x (List.mem_of_mem_drop hx)
      unfold pMath at hpm
      split at hpm
      · rename_i x y hargs
        have hst := take_rev2 hargs
        have hw9 : (((st.drop 2).map (vR ρ)).map fun v => v.category).sum + 15 ≤ R.locals := by rw [catS_map]; omega
        generalize st.drop 2 = r at *
        subst hst
        rw [if_neg (by decide), if_pos rfl] at hpm
        cases hpm
        exact (va_mmin_long X.1 X.2.1 (X.2.2.1.trans S.1.1.symm) X.2.2.2.1 (by rw [← yMath.2.1]; exact hl0) (gw X (in_tbl wMath_ok.2.1.1) (by first | rfl | simp [goodWord, Jvm.Cond.onTables, Jvm.Cond.keeps, Jvm.Cond.steady])) (gw X (in_tbl wMath_ok.2.2.2) (by first | rfl | simp [goodWord, Jvm.Cond.onTables, Jvm.Cond.keeps, Jvm.Cond.steady])) (gw X (in_tbl wMath_ok.2.1.2) (by first | rfl | simp [goodWord, Jvm.Cond.onTables, Jvm.Cond.keeps, Jvm.Cond.steady])) hR1.1 (by omega) (by omega) (by omega) hd (IH _ _ _ _ hq _ _ _ _ _ _ _ hc (S.stk (al_l hmem))))
      · rename_i x y hargs
        have hst := take_rev2 hargs
        have hw9 : (((st.drop 2).map (vR ρ)).map fun v => v.category).sum + 15 ≤ R.locals := by rw [catS_map]; omega
        generalize st.drop 2 = r at *
        subst hst
        rw [if_neg (by decide)] at hpm
        cases hpm
      · cases hpm
    · exact hq.elim
  · exact hq.elim
theorem sx_math278 (X : xCtx p R s m meth c o nL ini bytes A D cA ρ0 h0 hE scr) (IH : xIH p l e R s m args below meth c Q o rt nL ini bytes pcs A D cA ρ0 h0 hE cf scr B vE n) {ρ : Nat → Nat} {H : Heap} {locs : List Loc} {cells slots pc : Nat} {lsA : Array Slot} {is : List XI} {ls : LL} {st : List Value} {h : Hp} (S : zSt s nL A D cA ρ0 h0 hE ρ H locs cells slots lsA ls st h) (hcs : xcfOK l R cf) (hcf : cfMono cf) (hR1 : 1 ≤ R.frames ∧ 40 ≤ R.locals) {idx nest : Nat} (hx : xlu xMt o idx = some (278, nest)) (hd : decode bytes pc = .ok (.invokestatic idx, 3)) (hc : xchk o rt ini bytes pcs (pc + 3) is = true) (hq : xnRun cf scr B vE hE n (xStep cf scr B (.invokestatic 278, 2) is ls st h)) : W p l e R s m args below meth c H locs cells slots Q (F0 m pc lsA (st.map (vR ρ))) := by
  simp only [xStep] at hq
  split at hq
  · rename_i hcs0
    split at hq
    · rename_i v h1 hcall
      obtain ⟨d, hd1, hd2, hcc⟩ := hcs
      have hpm := (hcc _ _ _ _ _ hcall).1 (by omega)
      have hq : xRun cf scr B n is ls (v.toList ++ st.drop 2) h1 = some (vE, hE) := hq
      have hm := hcf _ _ _ _ _ hcall
      have hroom := room_of X S (xRun_mono hcf _ _ _ _ _ _ _ hq) (a := hC h1 - hC h) (b := hS h1 - hS h) (by have := hm.1; omega) (by have := hm.2.1; omega)
      have hl0 := (link_of (args := args) X.2.2.2.2.1 hx (by decide)).1 ((mNest0 hx).1 (by omega))
      have hs8 := hcs0.1
      have hmem : ∀ x ∈ st.drop 2, vOK h x := fun x hx => S.2.2.1 x (List.mem_of_mem_drop hx)
      unfold pMath at hpm
      split at hpm
      · rename_i x y hargs
        have hst := take_rev2 hargs
        have hw9 : (((st.drop 2).map (vR ρ)).map fun v => v.category).sum + 15 ≤ R.locals := by rw [catS_map]; omega
        generalize st.drop 2 = r at *
        subst hst
        rw [if_neg (by decide), if_neg (by decide)] at hpm
        cases hpm
      · rename_i x y hargs
        have hst := take_rev2 hargs
        have hw9 : (((st.drop 2).map (vR ρ)).map fun v => v.category).sum + 15 ≤ R.locals := by rw [catS_map]; omega
        generalize st.drop 2 = r at *
        subst hst
        rw [if_pos rfl] at hpm
        cases hpm
        exact (va_mmin X.1 X.2.1 (X.2.2.1.trans S.1.1.symm) X.2.2.2.1 (by rw [← yMath.2.2.1]; exact hl0) (gw X (in_tbl wMath_ok.2.2.1.1) (by first | rfl | simp [goodWord, Jvm.Cond.onTables, Jvm.Cond.keeps, Jvm.Cond.steady])) (gw X (in_tbl wMath_ok.2.2.2) (by first | rfl | simp [goodWord, Jvm.Cond.onTables, Jvm.Cond.keeps, Jvm.Cond.steady])) (gw X (in_tbl wMath_ok.2.2.1.2) (by first | rfl | simp [goodWord, Jvm.Cond.onTables, Jvm.Cond.keeps, Jvm.Cond.steady])) hR1.1 (by omega) (by omega) (by omega) hd (IH _ _ _ _ hq _ _ _ _ _ _ _ hc (S.stk (al_i hmem))))
      · cases hpm
    · exact hq.elim
  · exact hq.elim
set_option maxHeartbeats 4000000 in
theorem sx_step (X : xCtx p R s m meth c o nL ini bytes A D cA ρ0 h0 hE scr) (IH : xIH p l e R s m args below meth c Q o rt nL ini bytes pcs A D cA ρ0 h0 hE cf scr B vE n) {ρ : Nat → Nat} {H : Heap} {locs : List Loc} {cells slots pc : Nat} {lsA : Array Slot} {is : List XI} {ls : LL} {st : List Value} {h : Hp} (S : zSt s nL A D cA ρ0 h0 hE ρ H locs cells slots lsA ls st h)
    (hAO : va_AO "DiceLaw$Text" s) (hcf : cfMono cf) (hcs : xcfOK l R cf) (hR1 : 1 ≤ R.frames ∧ 40 ≤ R.locals) (hB : ∀ (b t : Nat), pcs[b]? = some t → xchk o rt ini bytes pcs t (B b) = true) (hEnd : xEnd p l e R s m args below meth c Q rt nL bytes A D cA ρ0 h0 hE vE) (h83 : StatOK 83)
    (H274 : ∀ {ρ : Nat → Nat} {H : Heap} {locs : List Loc} {cells slots pc : Nat} {lsA : Array Slot} {is : List XI} {ls : LL} {st : List Value} {h : Hp} {idx nest : Nat}, xIH p l e R s m args below meth c Q o rt nL ini bytes pcs A D cA ρ0 h0 hE cf scr B vE n → zSt s nL A D cA ρ0 h0 hE ρ H locs cells slots lsA ls st h → xlu xMt o idx = some (274, nest) → decode bytes pc = .ok (.invokestatic idx, 3) → xchk o rt ini bytes pcs (pc + 3) is = true → xnRun cf scr B vE hE n (xStep cf scr B (.invokestatic 274, eN (mOf 274)) is ls st h) → W p l e R s m args below meth c H locs cells slots Q (F0 m pc lsA (st.map (vR ρ))))
    {x : XI} {ri : Instr} {len : Nat} (hd : decode bytes pc = .ok (ri, len)) (ht : xtr o rt ini pcs pc ri len = some x) (hc : xchk o rt ini bytes pcs (pc + len) is = true) (hq : xnRun cf scr B vE hE n (xStep cf scr B x is ls st h)) : W p l e R s m args below meth c H locs cells slots Q (F0 m pc lsA (st.map (vR ρ))) := by
  cases ri with
  | iconst n =>
    simp only [xtr] at ht
    obtain ⟨rfl, rfl⟩ := xln_eq ht
    exact sx_iconst X IH S hd hc hq
  | bipush n =>
    simp only [xtr] at ht
    obtain ⟨rfl, rfl⟩ := xln_eq ht
    exact sx_bipush X IH S hd hc hq
  | sipush n =>
    simp only [xtr] at ht
    obtain ⟨rfl, rfl⟩ := xln_eq ht
    exact sx_sipush X IH S hd hc hq
  | lconst n =>
    simp only [xtr] at ht
    obtain ⟨rfl, rfl⟩ := xln_eq ht
    exact sx_lconst X IH S hd hc hq
  | aconst_null =>
    simp only [xtr] at ht
    obtain ⟨rfl, rfl⟩ := xln_eq ht
    exact sx_null X IH S hd hc hq
  | iload i =>
    simp only [xtr] at ht
    obtain ⟨rfl, rfl⟩ := xln_eq ht
    exact sx_iload X IH S hd hc hq
  | lload i =>
    simp only [xtr] at ht
    obtain ⟨rfl, rfl⟩ := xln_eq ht
    exact sx_lload X IH S hd hc hq
  | aload i =>
    simp only [xtr] at ht
    obtain ⟨rfl, rfl⟩ := xln_eq ht
    exact sx_aload X IH S hd hc hq
  | iload_n i =>
    simp only [xtr] at ht
    obtain ⟨rfl, rfl⟩ := xln_eq ht
    exact sx_iload_n X IH S hd hc hq
  | lload_n i =>
    simp only [xtr] at ht
    obtain ⟨rfl, rfl⟩ := xln_eq ht
    exact sx_lload_n X IH S hd hc hq
  | aload_n i =>
    simp only [xtr] at ht
    obtain ⟨rfl, rfl⟩ := xln_eq ht
    exact sx_aload_n X IH S hd hc hq
  | istore i =>
    simp only [xtr] at ht
    obtain ⟨rfl, rfl⟩ := xln_eq ht
    exact sx_istore X IH S hd hc hq
  | astore i =>
    simp only [xtr] at ht
    obtain ⟨rfl, rfl⟩ := xln_eq ht
    exact sx_astore X IH S hd hc hq
  | istore_n i =>
    simp only [xtr] at ht
    obtain ⟨rfl, rfl⟩ := xln_eq ht
    exact sx_istore_n X IH S hd hc hq
  | astore_n i =>
    simp only [xtr] at ht
    obtain ⟨rfl, rfl⟩ := xln_eq ht
    exact sx_astore_n X IH S hd hc hq
  | lstore i =>
    simp only [xtr] at ht
    obtain ⟨rfl, rfl⟩ := xln_eq ht
    exact sx_lstore X IH S hd hc hq
  | lstore_n i =>
    simp only [xtr] at ht
    obtain ⟨rfl, rfl⟩ := xln_eq ht
    exact sx_lstore_n X IH S hd hc hq
  | iinc i n =>
    simp only [xtr] at ht
    obtain ⟨rfl, rfl⟩ := xln_eq ht
    exact sx_iinc X IH S hd hc hq
  | dup =>
    simp only [xtr] at ht
    obtain ⟨rfl, rfl⟩ := xln_eq ht
    exact sx_dup X IH S hd hc hq
  | dup2 =>
    simp only [xtr] at ht
    obtain ⟨rfl, rfl⟩ := xln_eq ht
    exact sx_dup2 X IH S hd hc hq
  | pop =>
    simp only [xtr] at ht
    obtain ⟨rfl, rfl⟩ := xln_eq ht
    exact sx_pop X IH S hd hc hq
  | pop2 =>
    simp only [xtr] at ht
    obtain ⟨rfl, rfl⟩ := xln_eq ht
    exact sx_pop2 X IH S hd hc hq
  | arraylength =>
    simp only [xtr] at ht
    obtain ⟨rfl, rfl⟩ := xln_eq ht
    exact sx_alen X IH S hd hc hq
  | iaload =>
    simp only [xtr] at ht
    obtain ⟨rfl, rfl⟩ := xln_eq ht
    exact sx_iald X IH S hd hc hq
  | baload =>
    simp only [xtr] at ht
    obtain ⟨rfl, rfl⟩ := xln_eq ht
    exact sx_bald X IH S hd hc hq
  | laload =>
    simp only [xtr] at ht
    obtain ⟨rfl, rfl⟩ := xln_eq ht
    exact sx_lald X IH S hd hc hq
  | aaload =>
    simp only [xtr] at ht
    obtain ⟨rfl, rfl⟩ := xln_eq ht
    exact sx_aald X IH S hd hc hq
  | iastore =>
    simp only [xtr] at ht
    obtain ⟨rfl, rfl⟩ := xln_eq ht
    exact sx_iast X IH S hd hc hq
  | bastore =>
    simp only [xtr] at ht
    obtain ⟨rfl, rfl⟩ := xln_eq ht
    exact sx_bast X IH S hd hc hq
  | lastore =>
    simp only [xtr] at ht
    obtain ⟨rfl, rfl⟩ := xln_eq ht
    exact sx_last X IH S hd hc hq
  | aastore =>
    simp only [xtr] at ht
    obtain ⟨rfl, rfl⟩ := xln_eq ht
    exact sx_aast X IH S hd hc hq
  | iadd =>
    simp only [xtr] at ht
    obtain ⟨rfl, rfl⟩ := xln_eq ht
    exact sx_iadd X IH S hd hc hq
  | isub =>
    simp only [xtr] at ht
    obtain ⟨rfl, rfl⟩ := xln_eq ht
    exact sx_isub X IH S hd hc hq
  | imul =>
    simp only [xtr] at ht
    obtain ⟨rfl, rfl⟩ := xln_eq ht
    exact sx_imul X IH S hd hc hq
  | idiv =>
    simp only [xtr] at ht
    obtain ⟨rfl, rfl⟩ := xln_eq ht
    exact sx_idiv X IH S hd hc hq
  | irem =>
    simp only [xtr] at ht
    obtain ⟨rfl, rfl⟩ := xln_eq ht
    exact sx_irem X IH S hd hc hq
  | iand =>
    simp only [xtr] at ht
    obtain ⟨rfl, rfl⟩ := xln_eq ht
    exact sx_iand X IH S hd hc hq
  | ior =>
    simp only [xtr] at ht
    obtain ⟨rfl, rfl⟩ := xln_eq ht
    exact sx_ior X IH S hd hc hq
  | ixor =>
    simp only [xtr] at ht
    obtain ⟨rfl, rfl⟩ := xln_eq ht
    exact sx_ixor X IH S hd hc hq
  | ishl =>
    simp only [xtr] at ht
    obtain ⟨rfl, rfl⟩ := xln_eq ht
    exact sx_ishl X IH S hd hc hq
  | ishr =>
    simp only [xtr] at ht
    obtain ⟨rfl, rfl⟩ := xln_eq ht
    exact sx_ishr X IH S hd hc hq
  | iushr =>
    simp only [xtr] at ht
    obtain ⟨rfl, rfl⟩ := xln_eq ht
    exact sx_iushr X IH S hd hc hq
  | ladd =>
    simp only [xtr] at ht
    obtain ⟨rfl, rfl⟩ := xln_eq ht
    exact sx_ladd X IH S hd hc hq
  | lsub =>
    simp only [xtr] at ht
    obtain ⟨rfl, rfl⟩ := xln_eq ht
    exact sx_lsub X IH S hd hc hq
  | lmul =>
    simp only [xtr] at ht
    obtain ⟨rfl, rfl⟩ := xln_eq ht
    exact sx_lmul X IH S hd hc hq
  | ldiv =>
    simp only [xtr] at ht
    obtain ⟨rfl, rfl⟩ := xln_eq ht
    exact sx_ldiv X IH S hd hc hq
  | lrem =>
    simp only [xtr] at ht
    obtain ⟨rfl, rfl⟩ := xln_eq ht
    exact sx_lrem X IH S hd hc hq
  | land =>
    simp only [xtr] at ht
    obtain ⟨rfl, rfl⟩ := xln_eq ht
    exact sx_land X IH S hd hc hq
  | lor =>
    simp only [xtr] at ht
    obtain ⟨rfl, rfl⟩ := xln_eq ht
    exact sx_lor X IH S hd hc hq
  | lshl =>
    simp only [xtr] at ht
    obtain ⟨rfl, rfl⟩ := xln_eq ht
    exact sx_lshl X IH S hd hc hq
  | lushr =>
    simp only [xtr] at ht
    obtain ⟨rfl, rfl⟩ := xln_eq ht
    exact sx_lushr X IH S hd hc hq
  | lcmp =>
    simp only [xtr] at ht
    obtain ⟨rfl, rfl⟩ := xln_eq ht
    exact sx_lcmp X IH S hd hc hq
  | i2l =>
    simp only [xtr] at ht
    obtain ⟨rfl, rfl⟩ := xln_eq ht
    exact sx_i2l X IH S hd hc hq
  | l2i =>
    simp only [xtr] at ht
    obtain ⟨rfl, rfl⟩ := xln_eq ht
    exact sx_l2i X IH S hd hc hq
  | i2b =>
    simp only [xtr] at ht
    obtain ⟨rfl, rfl⟩ := xln_eq ht
    exact sx_i2b X IH S hd hc hq
  | goto off =>
    simp only [xtr] at ht
    split at ht
    · rename_i b hb
      obtain ⟨rfl, rfl⟩ := xln_eq ht
      exact sx_goto X IH S hB hb hd hq
    · cases ht
  | if_icmp cc off =>
    simp only [xtr] at ht
    split at ht
    · rename_i b hb
      obtain ⟨rfl, rfl⟩ := xln_eq ht
      exact sx_if_icmp X IH S hB hb hd hc hq
    · cases ht
  | ifCond cc off =>
    simp only [xtr] at ht
    split at ht
    · rename_i b hb
      obtain ⟨rfl, rfl⟩ := xln_eq ht
      exact sx_ifCond X IH S hB hb hd hc hq
    · cases ht
  | ifnull off =>
    simp only [xtr] at ht
    split at ht
    · rename_i b hb
      obtain ⟨rfl, rfl⟩ := xln_eq ht
      exact sx_ifnull X IH S hB hb hd hc hq
    · cases ht
  | ifnonnull off =>
    simp only [xtr] at ht
    split at ht
    · rename_i b hb
      obtain ⟨rfl, rfl⟩ := xln_eq ht
      exact sx_ifnonnull X IH S hB hb hd hc hq
    · cases ht
  | tableswitch d lo hi offs =>
    simp only [xtr] at ht
    split at ht
    · rename_i b bs hb hbs
      cases ht
      exact sx_tsw X IH S hB hb hbs hd hq
    · cases ht
  | getfield idx =>
    simp only [xtr] at ht
    split at ht
    · rename_i ci k nest hx
      split at ht
      · rename_i hk
        split at ht
        · rename_i hty
          obtain ⟨rfl, rfl⟩ := xln_eq ht
          exact sx_getI X IH S hx hk (Or.inl hty) hd hc hq
        · rename_i hty
          obtain ⟨rfl, rfl⟩ := xln_eq ht
          exact sx_getI X IH S hx hk (Or.inr hty) hd hc hq
        · rename_i hty
          obtain ⟨rfl, rfl⟩ := xln_eq ht
          exact sx_getL X IH S hx hk hty hd hc hq
        · rename_i C hty
          obtain ⟨rfl, rfl⟩ := xln_eq ht
          exact sx_getR X IH S hx hk (Or.inl ⟨C, hty⟩) hd hc hq
        · rename_i C hty
          obtain ⟨rfl, rfl⟩ := xln_eq ht
          exact sx_getR X IH S hx hk (Or.inr ⟨C, hty⟩) hd hc hq
        · cases ht
      · cases ht
    · cases ht
  | putfield idx =>
    simp only [xtr] at ht
    split at ht
    · rename_i ci k nest hx
      split at ht
      · rename_i hk
        split at ht
        · rename_i hty
          obtain ⟨rfl, rfl⟩ := xln_eq ht
          exact sx_putI X IH S hx hk hty hd hc hq
        · rename_i hty
          obtain ⟨rfl, rfl⟩ := xln_eq ht
          exact sx_putZ X IH S hx hk hty hd hc hq
        · rename_i hty
          obtain ⟨rfl, rfl⟩ := xln_eq ht
          exact sx_putL X IH S hx hk hty hd hc hq
        · rename_i C hty
          obtain ⟨rfl, rfl⟩ := xln_eq ht
          exact sx_putR X IH S hx hk (Or.inl ⟨C, hty⟩) hd hc hq
        · rename_i C hty
          obtain ⟨rfl, rfl⟩ := xln_eq ht
          exact sx_putR X IH S hx hk (Or.inr ⟨C, hty⟩) hd hc hq
        · cases ht
      · cases ht
    · cases ht
  | invokestatic idx =>
    simp only [xtr] at ht
    split at ht
    · rename_i k nest hx
      split at ht
      · rename_i hst
        obtain ⟨rfl, rfl⟩ := xln_eq ht
        by_cases q1 : k = 277
        · subst q1
          rw [yMath.2.2.2.1] at hq
          exact sx_math277 X IH S hcs hcf hR1 hx hd hc hq
        by_cases q2 : k = 278
        · subst q2
          rw [yMath.2.2.2.2.1] at hq
          exact sx_math278 X IH S hcs hcf hR1 hx hd hc hq
        by_cases q3 : k = 279
        · subst q3
          rw [yMath.2.2.2.2.2] at hq
          exact sx_math279 X IH S hcs hcf hR1 hx hd hc hq
        by_cases q4 : k = 274
        · subst q4
          exact H274 IH S hx hd hc hq
        have q9 : k ≠ 999 := by
          intro q
          subst q
          rcases hst with h | h | h
          · exact absurd h (by decide)
          · exact absurd h (by decide)
          · exact absurd h (by decide)
        exact sx_calls X IH S hAO hcf hcs hx q9 (by
          rcases hst with h | h | h
          · exact Or.inl h
          · exact absurd h q4
          · exact Or.inr ⟨h, h83⟩) (by omega) hd hc hq
      · cases ht
    · cases ht
  | invokevirtual idx =>
    simp only [xtr] at ht
    split at ht
    · rename_i k nest hx
      split at ht
      · rename_i hst
        obtain ⟨rfl, rfl⟩ := xln_eq ht
        exact sx_callv X IH S hAO hcf hcs hx (by rintro rfl; exact absurd hst (by decide)) hst hd hc hq
      · cases ht
    · cases ht
  | invokespecial idx =>
    simp only [xtr] at ht
    split at ht
    · rename_i k nest hx
      split at ht
      · rename_i hk
        subst hk
        obtain ⟨rfl, rfl⟩ := xln_eq ht
        exact sx_obj X IH S ⟨hR1.1, by omega⟩ hx ((mNest0 hx).1 (by omega)) hd hc hq
      · rename_i hk
        split at ht
        · rename_i hst
          obtain ⟨rfl, rfl⟩ := xln_eq ht
          exact sx_calli X IH S hAO hcf hcs hx hk hst hd hc hq
        · cases ht
    · cases ht
  | new idx =>
    simp only [xtr] at ht
    split at ht
    · rename_i ci hx
      split at ht
      · rename_i hci
        obtain ⟨rfl, rfl⟩ := xln_eq ht
        exact sx_new X IH S hcf hx hci hd hc hq
      · cases ht
    · cases ht
  | newarray t =>
    simp only [xtr] at ht
    obtain ⟨rfl, rfl⟩ := xln_eq ht
    exact sx_newa X IH S hcf hd hc hq
  | anewarray idx =>
    simp only [xtr] at ht
    split at ht
    · rename_i ci hx
      split at ht
      · rename_i hci
        subst hci
        obtain ⟨rfl, rfl⟩ := xln_eq ht
        exact sx_anewa X IH S hcf hx hAO hd hc hq
      · cases ht
    · cases ht
  | ldc idx =>
    simp only [xtr] at ht
    split at ht
    · rename_i v t hx
      split at ht
      · rename_i h0
        subst h0
        obtain ⟨rfl, rfl⟩ := xln_eq ht
        exact sx_ldc X IH S hx hd hc hq
      · cases ht
    · split at ht
      · rename_i j hx
        obtain ⟨rfl, rfl⟩ := xln_eq ht
        exact sx_ldcS X IH S hx hd hc hq
      · cases ht
  | ldc_w idx =>
    simp only [xtr] at ht
    split at ht
    · rename_i v t hx
      split at ht
      · rename_i h0
        subst h0
        obtain ⟨rfl, rfl⟩ := xln_eq ht
        exact sx_ldcw X IH S hx hd hc hq
      · cases ht
    · cases ht
  | ldc2_w idx =>
    simp only [xtr] at ht
    split at ht
    · rename_i v t hx
      split at ht
      · rename_i h0
        subst h0
        obtain ⟨rfl, rfl⟩ := xln_eq ht
        exact sx_ldc2 X IH S hx hd hc hq
      · cases ht
    · cases ht
  | ireturn =>
    simp only [xtr] at ht
    split at ht
    · rename_i hr
      obtain ⟨rfl, rfl⟩ := xln_eq ht
      exact sx_ireturn X IH S hEnd (Or.inl ⟨hr, rfl⟩) hd hq
    · split at ht
      · rename_i hr
        obtain ⟨rfl, rfl⟩ := xln_eq ht
        exact sx_ireturn X IH S hEnd (Or.inr ⟨hr, rfl⟩) hd hq
      · cases ht
  | lreturn =>
    simp only [xtr] at ht
    split at ht
    · rename_i hr
      obtain ⟨rfl, rfl⟩ := xln_eq ht
      exact sx_lreturn X IH S hEnd hr hd hq
    · cases ht
  | return_ =>
    simp only [xtr] at ht
    split at ht
    · rename_i hr
      obtain ⟨rfl, rfl⟩ := xln_eq ht
      exact sx_vreturn X IH S hEnd hr hd hq
    · cases ht
  | _ =>
    simp [xtr] at ht
theorem xchk_eq {i : Instr} {k pc : Nat} {is : List XI} (hj : ∀ b, i ≠ .jsr b) : xchk o rt ini bytes pcs pc ((i, k) :: is) = (match decode bytes pc with
      | .ok (ri, len) => decide (xtr o rt ini pcs pc ri len = some (i, k)) && xchk o rt ini bytes pcs (pc + len) is
      | .error _ => false) := by
  cases i <;> first | rfl | exact absurd rfl (hj _)
theorem xchk_cons {x : XI} {is : List XI} {pc : Nat} (h : xchk o rt ini bytes pcs pc (x :: is) = true) : (∃ b k, x = (.jsr b, k) ∧ pcs[b.toNat]? = some pc) ∨ ∃ ri len, decode bytes pc = .ok (ri, len) ∧ xtr o rt ini pcs pc ri len = some x ∧ xchk o rt ini bytes pcs (pc + len) is = true := by
  obtain ⟨i, k⟩ := x
  by_cases hj : ∃ b, i = .jsr b
  · obtain ⟨b, rfl⟩ := hj
    exact Or.inl ⟨b, k, rfl, of_decide_eq_true h⟩
  · rw [xchk_eq (fun b q => hj ⟨b, q⟩)] at h
    split at h
    · rename_i ri len hd
      simp only [Bool.and_eq_true, decide_eq_true_eq] at h
      exact Or.inr ⟨ri, len, hd, h.1, h.2⟩
    · cases h
theorem xW (X : xCtx p R s m meth c o nL ini bytes A D cA ρ0 h0 hE scr) (hAO : va_AO "DiceLaw$Text" s) (hcf : cfMono cf) (hcs : xcfOK l R cf) (hR1 : 1 ≤ R.frames ∧ 40 ≤ R.locals) (hB : ∀ (b t : Nat), pcs[b]? = some t → xchk o rt ini bytes pcs t (B b) = true) (hEnd : xEnd p l e R s m args below meth c Q rt nL bytes A D cA ρ0 h0 hE vE) (h83 : StatOK 83)
    (H274 : ∀ (n : Nat) {ρ : Nat → Nat} {H : Heap} {locs : List Loc} {cells slots pc : Nat} {lsA : Array Slot} {is : List XI} {ls : LL} {st : List Value} {h : Hp} {idx nest : Nat}, xIH p l e R s m args below meth c Q o rt nL ini bytes pcs A D cA ρ0 h0 hE cf scr B vE n → zSt s nL A D cA ρ0 h0 hE ρ H locs cells slots lsA ls st h → xlu xMt o idx = some (274, nest) → decode bytes pc = .ok (.invokestatic idx, 3) → xchk o rt ini bytes pcs (pc + 3) is = true → xnRun cf scr B vE hE n (xStep cf scr B (.invokestatic 274, eN (mOf 274)) is ls st h) → W p l e R s m args below meth c H locs cells slots Q (F0 m pc lsA (st.map (vR ρ)))) :
    ∀ n, xIH p l e R s m args below meth c Q o rt nL ini bytes pcs A D cA ρ0 h0 hE cf scr B vE n := by
  intro n
  induction n with
  | zero =>
    intro is ls st h hr
    simp [xRun] at hr
  | succ n ih =>
    intro is ls st h hr ρ H locs cells slots pc lsA hc S
    cases is with
    | nil => simp [xRun] at hr
    | cons x is =>
      have hq : xnRun cf scr B vE hE n (xStep cf scr B x is ls st h) := by
        rw [xRun] at hr
        cases hs : xStep cf scr B x is ls st h with
        | none => rw [hs] at hr; cases hr
        | some q =>
          rw [hs] at hr
          cases q with
          | inl q => exact hr
          | inr q => exact Option.some.inj hr
      rcases xchk_cons hc with ⟨b, k, rfl, hb⟩ | ⟨ri, len, hd, ht, hc2⟩
      · simp only [xStep] at hq
        exact ih _ _ _ _ hq _ _ _ _ _ _ _ (hB _ _ hb) S
      · exact sx_step X ih S hAO hcf hcs hR1 hB hEnd h83 (fun a b c d e f => H274 n a b c d e f) hd ht hc2 hq
end
