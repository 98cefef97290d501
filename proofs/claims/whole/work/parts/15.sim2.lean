/-! Fields, arrays, new cells. -/
section
variable {p : Program} {l : Launch} {e : Env} {R : Room} {s : State} {m : MethodId} {args : Array Value} {below : List Frame} {meth : Method} {c : Code} {Q : State → Prop} {o rt nL : Nat} {ini : Bool} {bytes : ByteArray} {pcs : List Nat} {A : Nat → Prop} {D : va_G} {cA : Nat → ClassId} {ρ0 : Nat → Nat} {h0 hE : Hp} {scr : Option (Nat × (Nat → Int32))} {cf : Nat → List Value → Hp → Option XR} {B : Nat → List XI} {vE : Option Value} {n : Nat}

theorem gw {w : Jvm.Cond} (X : xCtx p R s m meth c o nL ini bytes A D cA ρ0 h0 hE scr) (hw : w ∈ lw_tbl) (hg : goodWord w = true) : w.before args s = true := Inv.use X.2.2.2.2.1 hw hg args
theorem fs_len {ρ : Nat → Nat} {h : Hp} {a ci : Nat} : ((List.range (Nx ci)).map (fldR ρ h a ci)).length = Nx ci := by simp
theorem sx_getF (X : xCtx p R s m meth c o nL ini bytes A D cA ρ0 h0 hE scr) {ρ : Nat → Nat} {H : Heap} {locs : List Loc} {cells slots pc : Nat} {lsA : Array Slot} {h : Hp} (hP : va_P D xcl (wsR ρ cA h) H) {idx ci k nest a : Nat} (hx : xlu xFt o idx = some (ci, k, nest)) (hk : k < Nx ci) (hci : ci < 12) (ha : a < hZ h) (hka : hK h a = ci + 1) (hd : decode bytes pc = .ok (.getfield idx, 3)) {rest : List Value}
    (kk : W p l e R s m args below meth c H locs cells slots Q (F0 m (pc + 3) lsA (fldR ρ h a ci k :: rest))) : W p l e R s m args below meth c H locs cells slots Q (F0 m pc lsA (.ref (ρ a) :: rest)) := by
  have he := ws_at (ρ := ρ) (cA := cA) ha
  rw [cell_obj hci hka] at he
  have hw := wF_in hx
  have hsame : ∀ x, s.fieldFound? (Tx ci k).1 (Tx ci k).2.1 (Tx ci k).2.2.1 = some x → s.fieldFound? (rn ci) (Tx ci k).2.1 (Tx ci k).2.2.1 = some x := fun x h9 => by rw [Tx_own ci hci k hk] at h9; exact h9
  by_cases hn : nest = 0
  · have hl : Jvm.Cond.fieldLink (rn o) idx (rn ci) (Tx ci k).2.1 (Tx ci k).2.2.1 ∈ lw_tbl := by simpa [wF, hn] using hw
    exact va_get X.1 X.2.1 (G_hts X.2.2.2.2.1 args) (ws_in hci) X.2.2.2.1 X.2.2.2.2.2.1 hP a he (xcl_at hci) k hk (gw X hl (by first | rfl | simp [goodWord, Jvm.Cond.onTables, Jvm.Cond.keeps, Jvm.Cond.steady])) hsame (fs_at hk) hd kk
  · have hl : Jvm.Cond.fieldLinkNest (rn o) idx (rn ci) (Tx ci k).2.1 (Tx ci k).2.2.1 "DiceLaw" ∈ lw_tbl := by simpa [wF, hn] using hw
    exact va_getN X.1 X.2.1 (G_hts X.2.2.2.2.1 args) (ws_in hci) X.2.2.2.1 X.2.2.2.2.2.1 hP a he (xcl_at hci) k hk (va_Nw.use rfl (Inv.nw X.2.2.2.2.1 hl (by first | rfl | simp [okTag]))) hsame (fs_at hk) hd kk
theorem sx_putF (X : xCtx p R s m meth c o nL ini bytes A D cA ρ0 h0 hE scr) {ρ : Nat → Nat} {H : Heap} {locs : List Loc} {cells slots pc : Nat} {lsA : Array Slot} {h : Hp} (hP : va_P D xcl (wsR ρ cA h) H) (hD : va_D A (wsR ρ cA h)) (hS : va_S A s.heap H locs) {idx ci k nest a : Nat} (hx : xlu xFt o idx = some (ci, k, nest)) (hk : k < Nx ci) (hci : ci < 12) (hfin : (Tx ci k).2.2.2 = false ∨ (ini = true ∧ o = ci ∧ nest = 0)) (ha : a < hZ h) (hka : hK h a = ci + 1) {v : Value} (hn1 : narrow (tyx ci k) v = v) (hn2 : fits (tyx ci k) v = true) (hd : decode bytes pc = .ok (.putfield idx, 3)) {rest : List Value}
    (kk : ∀ (H1 : Heap) (locs1 : List Loc), va_P D xcl ((wsR ρ cA h).set a (ρ a, .inr (ci, ((List.range (Nx ci)).map (fldR ρ h a ci)).set k v))) H1 → va_D A ((wsR ρ cA h).set a (ρ a, .inr (ci, ((List.range (Nx ci)).map (fldR ρ h a ci)).set k v))) → va_S A s.heap H1 locs1 → W p l e R s m args below meth c H1 locs1 cells slots Q (F0 m (pc + 3) lsA rest)) : W p l e R s m args below meth c H locs cells slots Q (F0 m pc lsA (v :: .ref (ρ a) :: rest)) := by
  have he := ws_at (ρ := ρ) (cA := cA) ha
  rw [cell_obj hci hka] at he
  have hw := wF_in hx
  have hsame : ∀ x, s.fieldFound? (Tx ci k).1 (Tx ci k).2.1 (Tx ci k).2.2.1 = some x → s.fieldFound? (rn ci) (Tx ci k).2.1 (Tx ci k).2.2.1 = some x := fun x h9 => by rw [Tx_own ci hci k hk] at h9; exact h9
  by_cases hn : nest = 0
  · have hl : Jvm.Cond.fieldLink (rn o) idx (rn ci) (Tx ci k).2.1 (Tx ci k).2.2.1 ∈ lw_tbl := by simpa [wF, hn] using hw
    have hl := gw (args := args) X hl (by first | rfl | simp [goodWord, Jvm.Cond.onTables, Jvm.Cond.keeps, Jvm.Cond.steady])
    by_cases hf : (Tx ci k).2.2.2 = false
    · exact va_put X.1 X.2.1 (G_hts X.2.2.2.2.1 args) (ws_in hci) (tyx ci) (Tx_ty ci hci) (Tx_nm ci hci) X.2.2.2.1 X.2.2.2.2.2.1 hP hD hS a he (xcl_at hci) k hk hl hsame hf (Tx_ty ci hci k hk) hn1 hn2 (by rw [fs_len]; exact hk) hd kk
    · have hf2 : (Tx ci k).2.2.2 = true := by simpa using hf
      obtain ⟨i1, i2, i3⟩ := hfin.resolve_left hf
      exact va_putF X.1 X.2.1 (G_hts X.2.2.2.2.1 args) (ws_in hci) (tyx ci) (Tx_ty ci hci) (Tx_nm ci hci) X.2.2.2.1 X.2.2.2.2.2.1 hP hD hS a he (xcl_at hci) k hk hl hsame hf2 (X.2.2.2.2.2.2.2.1 i1) (by rw [Tx_own ci hci k hk, i2]) (Tx_ty ci hci k hk) hn1 hn2 (by rw [fs_len]; exact hk) hd kk
  · have hl : Jvm.Cond.fieldLinkNest (rn o) idx (rn ci) (Tx ci k).2.1 (Tx ci k).2.2.1 "DiceLaw" ∈ lw_tbl := by simpa [wF, hn] using hw
    have hf : (Tx ci k).2.2.2 = false := by
      rcases hfin with q | q
      · exact q
      · exact absurd q.2.2 hn
    exact va_putN X.1 X.2.1 (G_hts X.2.2.2.2.1 args) (ws_in hci) (tyx ci) (Tx_ty ci hci) (Tx_nm ci hci) X.2.2.2.1 X.2.2.2.2.2.1 hP hD hS a he (xcl_at hci) k hk (va_Nw.use rfl (Inv.nw X.2.2.2.2.1 hl (by first | rfl | simp [okTag]))) hsame hf (Tx_ty ci hci k hk) hn1 hn2 (by rw [fs_len]; exact hk) hd kk
theorem sx_getI (X : xCtx p R s m meth c o nL ini bytes A D cA ρ0 h0 hE scr) (IH : xIH p l e R s m args below meth c Q o rt nL ini bytes pcs A D cA ρ0 h0 hE cf scr B vE n) {ρ : Nat → Nat} {H : Heap} {locs : List Loc} {cells slots pc : Nat} {lsA : Array Slot} {is : List XI} {ls : LL} {st : List Value} {h : Hp} (S : zSt s nL A D cA ρ0 h0 hE ρ H locs cells slots lsA ls st h) {idx ci k nest : Nat} (hx : xlu xFt o idx = some (ci, k, nest)) (hk : k < Nx ci ∧ ci < 12) (hty : tyx ci k = .int ∨ tyx ci k = .boolean) (hd : decode bytes pc = .ok (.getfield idx, 3)) (hc : xchk o rt ini bytes pcs (pc + 3) is = true) (hq : xnRun cf scr B vE hE n (xStep cf scr B (.getfield ci, k) is ls st h)) : W p l e R s m args below meth c H locs cells slots Q (F0 m pc lsA (st.map (vR ρ))) := by
  simp only [xStep] at hq
  split at hq
  · split at hq
    · rename_i hka
      refine sx_getF X S.2.2.2.2.1 hx hk.1 hk.2 (kd_lt S.2.1 (by rw [hka]; exact Nat.succ_ne_zero _)) hka hd ?_
      have K := IH _ _ _ _ hq _ _ _ _ _ _ _ hc (S.stk (al_i (al_t S.2.2.1)))
      refine W.eq ?_ K
      show F0 _ _ _ (_ :: _) = F0 _ _ _ (_ :: _)
      congr 2
      rcases hty with q | q <;> (simp only [fldR, q]; try rfl)
      try rfl
    · exact hq.elim
  · exact hq.elim
theorem sx_getL (X : xCtx p R s m meth c o nL ini bytes A D cA ρ0 h0 hE scr) (IH : xIH p l e R s m args below meth c Q o rt nL ini bytes pcs A D cA ρ0 h0 hE cf scr B vE n) {ρ : Nat → Nat} {H : Heap} {locs : List Loc} {cells slots pc : Nat} {lsA : Array Slot} {is : List XI} {ls : LL} {st : List Value} {h : Hp} (S : zSt s nL A D cA ρ0 h0 hE ρ H locs cells slots lsA ls st h) {idx ci k nest : Nat} (hx : xlu xFt o idx = some (ci, k, nest)) (hk : k < Nx ci ∧ ci < 12) (hty : tyx ci k = .long) (hd : decode bytes pc = .ok (.getfield idx, 3)) (hc : xchk o rt ini bytes pcs (pc + 3) is = true) (hq : xnRun cf scr B vE hE n (xStep cf scr B (.getstatic ci, k) is ls st h)) : W p l e R s m args below meth c H locs cells slots Q (F0 m pc lsA (st.map (vR ρ))) := by
  simp only [xStep] at hq
  split at hq
  · split at hq
    · rename_i hka
      refine sx_getF X S.2.2.2.2.1 hx hk.1 hk.2 (kd_lt S.2.1 (by rw [hka]; exact Nat.succ_ne_zero _)) hka hd ?_
      have K := IH _ _ _ _ hq _ _ _ _ _ _ _ hc (S.stk (al_l (al_t S.2.2.1)))
      refine W.eq ?_ K
      show F0 _ _ _ (_ :: _) = F0 _ _ _ (_ :: _)
      congr 2
      simp only [fldR, hty]
      try rfl
    · exact hq.elim
  · exact hq.elim
theorem sx_getR (X : xCtx p R s m meth c o nL ini bytes A D cA ρ0 h0 hE scr) (IH : xIH p l e R s m args below meth c Q o rt nL ini bytes pcs A D cA ρ0 h0 hE cf scr B vE n) {ρ : Nat → Nat} {H : Heap} {locs : List Loc} {cells slots pc : Nat} {lsA : Array Slot} {is : List XI} {ls : LL} {st : List Value} {h : Hp} (S : zSt s nL A D cA ρ0 h0 hE ρ H locs cells slots lsA ls st h) {idx ci k nest : Nat} (hx : xlu xFt o idx = some (ci, k, nest)) (hk : k < Nx ci ∧ ci < 12) (hty : (∃ C, tyx ci k = .object C) ∨ ∃ t, tyx ci k = .array t) (hd : decode bytes pc = .ok (.getfield idx, 3)) (hc : xchk o rt ini bytes pcs (pc + 3) is = true) (hq : xnRun cf scr B vE hE n (xStep cf scr B (.checkcast ci, k) is ls st h)) : W p l e R s m args below meth c H locs cells slots Q (F0 m pc lsA (st.map (vR ρ))) := by
  simp only [xStep] at hq
  split at hq
  · split at hq
    · rename_i hka
      refine sx_getF X S.2.2.2.2.1 hx hk.1 hk.2 (kd_lt S.2.1 (by rw [hka]; exact Nat.succ_ne_zero _)) hka hd ?_
      have K := IH _ _ _ _ hq _ _ _ _ _ _ _ hc (S.stk (al_c (vOK_rf S.2.1 _ _) (al_t S.2.2.1)))
      refine W.eq ?_ K
      show F0 _ _ _ (_ :: _) = F0 _ _ _ (_ :: _)
      congr 2
      rw [vR_rf]
      rcases hty with ⟨_, q⟩ | ⟨_, q⟩ <;> simp only [fldR, q]
    · exact hq.elim
  · exact hq.elim
theorem sx_putI (X : xCtx p R s m meth c o nL ini bytes A D cA ρ0 h0 hE scr) (IH : xIH p l e R s m args below meth c Q o rt nL ini bytes pcs A D cA ρ0 h0 hE cf scr B vE n) {ρ : Nat → Nat} {H : Heap} {locs : List Loc} {cells slots pc : Nat} {lsA : Array Slot} {is : List XI} {ls : LL} {st : List Value} {h : Hp} (S : zSt s nL A D cA ρ0 h0 hE ρ H locs cells slots lsA ls st h) {idx ci k nest : Nat} (hx : xlu xFt o idx = some (ci, k, nest)) (hk : k < Nx ci ∧ ci < 12 ∧ ((Tx ci k).2.2.2 = false ∨ (ini = true ∧ o = ci ∧ nest = 0))) (hty : tyx ci k = .int) (hd : decode bytes pc = .ok (.putfield idx, 3)) (hc : xchk o rt ini bytes pcs (pc + 3) is = true) (hq : xnRun cf scr B vE hE n (xStep cf scr B (.putfield ci, k) is ls st h)) : W p l e R s m args below meth c H locs cells slots Q (F0 m pc lsA (st.map (vR ρ))) := by
  simp only [xStep] at hq
  split at hq
  · split at hq
    · rename_i hka
      
      refine sx_putF X S.2.2.2.2.1 S.2.2.2.2.2.1 S.2.2.2.2.2.2.1 hx hk.1 hk.2.1 hk.2.2 (kd_lt S.2.1 (by rw [hka]; exact Nat.succ_ne_zero _)) hka (by rw [hty]; rfl) (by rw [hty]; rfl) hd (fun H1 locs1 hP1 hD1 hS1 => ?_)
      exact IH _ _ _ _ hq _ _ _ _ _ _ _ hc (S.wr (fun v hv => List.mem_cons_of_mem _ (List.mem_cons_of_mem _ hv)) S.2.1.sI rfl rfl rfl (ws_sI_obj (kd_lt S.2.1 (by rw [hka]; exact Nat.succ_ne_zero _)) hk.2.1 hk.1 hka (by first | exact Or.inl hty | exact Or.inr hty)) hP1 hD1 hS1)
    · exact hq.elim
  · exact hq.elim
theorem sx_putZ (X : xCtx p R s m meth c o nL ini bytes A D cA ρ0 h0 hE scr) (IH : xIH p l e R s m args below meth c Q o rt nL ini bytes pcs A D cA ρ0 h0 hE cf scr B vE n) {ρ : Nat → Nat} {H : Heap} {locs : List Loc} {cells slots pc : Nat} {lsA : Array Slot} {is : List XI} {ls : LL} {st : List Value} {h : Hp} (S : zSt s nL A D cA ρ0 h0 hE ρ H locs cells slots lsA ls st h) {idx ci k nest : Nat} (hx : xlu xFt o idx = some (ci, k, nest)) (hk : k < Nx ci ∧ ci < 12 ∧ ((Tx ci k).2.2.2 = false ∨ (ini = true ∧ o = ci ∧ nest = 0))) (hty : tyx ci k = .boolean) (hd : decode bytes pc = .ok (.putfield idx, 3)) (hc : xchk o rt ini bytes pcs (pc + 3) is = true) (hq : xnRun cf scr B vE hE n (xStep cf scr B (.ret ci, k) is ls st h)) : W p l e R s m args below meth c H locs cells slots Q (F0 m pc lsA (st.map (vR ρ))) := by
  simp only [xStep] at hq
  split at hq
  · split at hq
    · rename_i hka
      obtain ⟨hka, hv01⟩ := hka
      refine sx_putF X S.2.2.2.2.1 S.2.2.2.2.2.1 S.2.2.2.2.2.2.1 hx hk.1 hk.2.1 hk.2.2 (kd_lt S.2.1 (by rw [hka]; exact Nat.succ_ne_zero _)) hka (by rw [hty]; rcases hv01 with rfl | rfl <;> rfl) (by rw [hty]; rcases hv01 with rfl | rfl <;> rfl) hd (fun H1 locs1 hP1 hD1 hS1 => ?_)
      exact IH _ _ _ _ hq _ _ _ _ _ _ _ hc (S.wr (fun v hv => List.mem_cons_of_mem _ (List.mem_cons_of_mem _ hv)) S.2.1.sI rfl rfl rfl (ws_sI_obj (kd_lt S.2.1 (by rw [hka]; exact Nat.succ_ne_zero _)) hk.2.1 hk.1 hka (by first | exact Or.inl hty | exact Or.inr hty)) hP1 hD1 hS1)
    · exact hq.elim
  · exact hq.elim
theorem sx_putL (X : xCtx p R s m meth c o nL ini bytes A D cA ρ0 h0 hE scr) (IH : xIH p l e R s m args below meth c Q o rt nL ini bytes pcs A D cA ρ0 h0 hE cf scr B vE n) {ρ : Nat → Nat} {H : Heap} {locs : List Loc} {cells slots pc : Nat} {lsA : Array Slot} {is : List XI} {ls : LL} {st : List Value} {h : Hp} (S : zSt s nL A D cA ρ0 h0 hE ρ H locs cells slots lsA ls st h) {idx ci k nest : Nat} (hx : xlu xFt o idx = some (ci, k, nest)) (hk : k < Nx ci ∧ ci < 12 ∧ ((Tx ci k).2.2.2 = false ∨ (ini = true ∧ o = ci ∧ nest = 0))) (hty : tyx ci k = .long) (hd : decode bytes pc = .ok (.putfield idx, 3)) (hc : xchk o rt ini bytes pcs (pc + 3) is = true) (hq : xnRun cf scr B vE hE n (xStep cf scr B (.putstatic ci, k) is ls st h)) : W p l e R s m args below meth c H locs cells slots Q (F0 m pc lsA (st.map (vR ρ))) := by
  simp only [xStep] at hq
  split at hq
  · split at hq
    · rename_i hka
      
      refine sx_putF X S.2.2.2.2.1 S.2.2.2.2.2.1 S.2.2.2.2.2.2.1 hx hk.1 hk.2.1 hk.2.2 (kd_lt S.2.1 (by rw [hka]; exact Nat.succ_ne_zero _)) hka (by rw [hty]; rfl) (by rw [hty]; rfl) hd (fun H1 locs1 hP1 hD1 hS1 => ?_)
      exact IH _ _ _ _ hq _ _ _ _ _ _ _ hc (S.wr (fun v hv => List.mem_cons_of_mem _ (List.mem_cons_of_mem _ hv)) S.2.1.sL rfl rfl rfl (ws_sL_obj (kd_lt S.2.1 (by rw [hka]; exact Nat.succ_ne_zero _)) hk.2.1 hk.1 hka hty) hP1 hD1 hS1)
    · exact hq.elim
  · exact hq.elim
theorem sx_putR (X : xCtx p R s m meth c o nL ini bytes A D cA ρ0 h0 hE scr) (IH : xIH p l e R s m args below meth c Q o rt nL ini bytes pcs A D cA ρ0 h0 hE cf scr B vE n) {ρ : Nat → Nat} {H : Heap} {locs : List Loc} {cells slots pc : Nat} {lsA : Array Slot} {is : List XI} {ls : LL} {st : List Value} {h : Hp} (S : zSt s nL A D cA ρ0 h0 hE ρ H locs cells slots lsA ls st h) {idx ci k nest : Nat} (hx : xlu xFt o idx = some (ci, k, nest)) (hk : k < Nx ci ∧ ci < 12 ∧ ((Tx ci k).2.2.2 = false ∨ (ini = true ∧ o = ci ∧ nest = 0))) (hty : (∃ C, tyx ci k = .object C) ∨ ∃ t, tyx ci k = .array t) (hd : decode bytes pc = .ok (.putfield idx, 3)) (hc : xchk o rt ini bytes pcs (pc + 3) is = true) (hq : xnRun cf scr B vE hE n (xStep cf scr B (.instanceof ci, k) is ls st h)) : W p l e R s m args below meth c H locs cells slots Q (F0 m pc lsA (st.map (vR ρ))) := by
  simp only [xStep] at hq
  split at hq
  · split at hq
    · rename_i hka
      
      refine sx_putF X S.2.2.2.2.1 S.2.2.2.2.2.1 S.2.2.2.2.2.2.1 hx hk.1 hk.2.1 hk.2.2 (kd_lt S.2.1 (by rw [hka]; exact Nat.succ_ne_zero _)) hka (by rcases hty with ⟨_, q⟩ | ⟨_, q⟩ <;> rw [q] <;> rfl) (by rcases hty with ⟨_, q⟩ | ⟨_, q⟩ <;> rw [q] <;> rfl) hd (fun H1 locs1 hP1 hD1 hS1 => ?_)
      exact IH _ _ _ _ hq _ _ _ _ _ _ _ hc (S.wr (fun v hv => List.mem_cons_of_mem _ (List.mem_cons_of_mem _ hv)) (S.2.1.sR (al_h S.2.2.1 _ rfl)) rfl rfl rfl (ws_sR_obj (kd_lt S.2.1 (by rw [hka]; exact Nat.succ_ne_zero _)) hk.2.1 hk.1 hka hty) hP1 hD1 hS1)
    · exact hq.elim
  · exact hq.elim
theorem cell_i {ρ : Nat → Nat} {cA : Nat → ClassId} {h : Hp} {a : Nat} (q : hK h a = KI) : cellR ρ cA h a = .inl (cA 0, hN h a, .inl (hI h a)) := by simp [cellR, q]
theorem cell_b {ρ : Nat → Nat} {cA : Nat → ClassId} {h : Hp} {a : Nat} (q : hK h a = KB) : cellR ρ cA h a = .inl (cA 1, hN h a, .inl (hI h a)) := by simp [cellR, q, KI, KB]
theorem cell_z {ρ : Nat → Nat} {cA : Nat → ClassId} {h : Hp} {a : Nat} (q : hK h a = KZ) : cellR ρ cA h a = .inl (cA 2, hN h a, .inl (hI h a)) := by simp [cellR, q, KI, KB, KZ]
theorem cell_j {ρ : Nat → Nat} {cA : Nat → ClassId} {h : Hp} {a : Nat} (q : hK h a = KJ) : cellR ρ cA h a = .inl (cA 3, hN h a, .inr (.inl (hL h a))) := by simp [cellR, q, KI, KB, KZ, KJ]
theorem cell_t {ρ : Nat → Nat} {cA : Nat → ClassId} {h : Hp} {a : Nat} (q : hK h a = KT) : cellR ρ cA h a = .inl (cA 4, hN h a, .inr (.inr (.inr (.inr (fun i => (hR h a i).map ρ))))) := by simp [cellR, q, KI, KB, KZ, KJ, KT]
theorem ws_c {ρ : Nat → Nat} {cA : Nat → ClassId} {h : Hp} (hw : WF h) {a : Nat} {e : va_E} (hk : hK h a ≠ 0) (he : cellR ρ cA h a = e) : (wsR ρ cA h)[a]? = some (ρ a, e) := by
  rw [ws_at (kd_lt hw hk), he]
theorem nz {x y : Nat} (h : x = y) (hy : y ≠ 0) : x ≠ 0 := by omega
theorem sx_alen (X : xCtx p R s m meth c o nL ini bytes A D cA ρ0 h0 hE scr) (IH : xIH p l e R s m args below meth c Q o rt nL ini bytes pcs A D cA ρ0 h0 hE cf scr B vE n) {ρ : Nat → Nat} {H : Heap} {locs : List Loc} {cells slots pc : Nat} {lsA : Array Slot} {is : List XI} {ls : LL} {st : List Value} {h : Hp} (S : zSt s nL A D cA ρ0 h0 hE ρ H locs cells slots lsA ls st h)  (hd : decode bytes pc = .ok (.arraylength, 1)) (hc : xchk o rt ini bytes pcs (pc + 1) is = true) (hq : xnRun cf scr B vE hE n (xStep cf scr B (.arraylength, 0) is ls st h)) : W p l e R s m args below meth c H locs cells slots Q (F0 m pc lsA (st.map (vR ρ))) := by
  simp only [xStep] at hq
  split at hq
  · rename_i a r
    split at hq
    · rename_i hka
      have K := IH _ _ _ _ hq _ _ _ _ _ _ _ hc (S.stk (al_i (al_t S.2.2.1)))
      have h5 : hK h a = KI ∨ hK h a = KB ∨ hK h a = KZ ∨ hK h a = KJ ∨ hK h a = KT := by
        have h1 := hka.1
        have h2 := hka.2
        simp only [KI, KB, KZ, KJ, KT] at h1 h2 ⊢
        omega
      rcases h5 with q | q | q | q | q
      · exact va_alen X.1 X.2.1 X.2.2.2.2.2.1 S.2.2.2.2.1 a 0 (ws_c S.2.1 (nz q (by decide)) (cell_i q)) rfl rfl hd K
      · exact va_alen X.1 X.2.1 X.2.2.2.2.2.1 S.2.2.2.2.1 a 1 (ws_c S.2.1 (nz q (by decide)) (cell_b q)) rfl rfl hd K
      · exact va_alen X.1 X.2.1 X.2.2.2.2.2.1 S.2.2.2.2.1 a 2 (ws_c S.2.1 (nz q (by decide)) (cell_z q)) rfl rfl hd K
      · exact va_alen X.1 X.2.1 X.2.2.2.2.2.1 S.2.2.2.2.1 a 3 (ws_c S.2.1 (nz q (by decide)) (cell_j q)) rfl rfl hd K
      · exact va_alen X.1 X.2.1 X.2.2.2.2.2.1 S.2.2.2.2.1 a 4 (ws_c S.2.1 (nz q (by decide)) (cell_t q)) rfl rfl hd K
    · split at hq
      · rename_i hsc
        subst hsc
        split at hq
        · rename_i q
          obtain ⟨x1, x2, x3⟩ := X.2.2.2.2.2.2.2.2.2.2 _ rfl
          have hg : ρ SCR = ρ0 SCR := S.2.2.2.2.2.2.2.1.1 SCR (Or.inr (Nat.le_refl _))
          have K := IH _ _ _ _ hq _ _ _ _ _ _ _ hc (S.stk (al_i (al_t S.2.2.1)))
          rw [← hg] at x1 x2 x3
          exact va_slen X.1 X.2.1 x1 x2 x3 S.2.2.2.2.2.2.1 hd K
        · exact hq.elim
      · exact hq.elim
  · exact hq.elim
theorem sx_iald (X : xCtx p R s m meth c o nL ini bytes A D cA ρ0 h0 hE scr) (IH : xIH p l e R s m args below meth c Q o rt nL ini bytes pcs A D cA ρ0 h0 hE cf scr B vE n) {ρ : Nat → Nat} {H : Heap} {locs : List Loc} {cells slots pc : Nat} {lsA : Array Slot} {is : List XI} {ls : LL} {st : List Value} {h : Hp} (S : zSt s nL A D cA ρ0 h0 hE ρ H locs cells slots lsA ls st h)  (hd : decode bytes pc = .ok (.iaload, 1)) (hc : xchk o rt ini bytes pcs (pc + 1) is = true) (hq : xnRun cf scr B vE hE n (xStep cf scr B (.iaload, 0) is ls st h)) : W p l e R s m args below meth c H locs cells slots Q (F0 m pc lsA (st.map (vR ρ))) := by
  simp only [xStep] at hq
  split at hq
  · rename_i i a r
    split at hq
    · rename_i q
      split at hq
      · rename_i hin
        exact va_iald X.1 X.2.1 X.2.2.2.2.2.1 S.2.2.2.2.1 a 0 (ws_c S.2.1 (nz q (by decide)) (cell_i q)) rfl ((xin_iff _ _).mp hin) hd (IH _ _ _ _ hq _ _ _ _ _ _ _ hc (S.stk (al_i (al_t (al_t S.2.2.1)))))
      · exact hq.elim
    · split at hq
      · rename_i hsc
        subst hsc
        split at hq
        · rename_i q
          split at hq
          · rename_i hin
            obtain ⟨x1, x2, x3⟩ := X.2.2.2.2.2.2.2.2.2.2 _ rfl
            have hg : ρ SCR = ρ0 SCR := S.2.2.2.2.2.2.2.1.1 SCR (Or.inr (Nat.le_refl _))
            have K := IH _ _ _ _ hq _ _ _ _ _ _ _ hc (S.stk (al_i (al_t (al_t S.2.2.1))))
            rw [← hg] at x1 x2 x3
            exact va_sld X.1 X.2.1 x1 x2 x3 S.2.2.2.2.2.2.1 ((xin_iff _ _).mp hin) hd K
          · exact hq.elim
        · exact hq.elim
      · exact hq.elim
  · exact hq.elim
theorem sx_bald (X : xCtx p R s m meth c o nL ini bytes A D cA ρ0 h0 hE scr) (IH : xIH p l e R s m args below meth c Q o rt nL ini bytes pcs A D cA ρ0 h0 hE cf scr B vE n) {ρ : Nat → Nat} {H : Heap} {locs : List Loc} {cells slots pc : Nat} {lsA : Array Slot} {is : List XI} {ls : LL} {st : List Value} {h : Hp} (S : zSt s nL A D cA ρ0 h0 hE ρ H locs cells slots lsA ls st h)  (hd : decode bytes pc = .ok (.baload, 1)) (hc : xchk o rt ini bytes pcs (pc + 1) is = true) (hq : xnRun cf scr B vE hE n (xStep cf scr B (.baload, 0) is ls st h)) : W p l e R s m args below meth c H locs cells slots Q (F0 m pc lsA (st.map (vR ρ))) := by
  simp only [xStep] at hq
  split at hq
  · rename_i i a r
    split at hq
    · rename_i hka
      have K := IH _ _ _ _ hq _ _ _ _ _ _ _ hc (S.stk (al_i (al_t (al_t S.2.2.1))))
      rcases hka.1 with q | q
      · exact va_bald X.1 X.2.1 X.2.2.2.2.2.1 S.2.2.2.2.1 a 1 (ws_c S.2.1 (nz q (by decide)) (cell_b q)) rfl ((xin_iff _ _).mp hka.2) hd K
      · exact va_zald X.1 X.2.1 X.2.2.2.2.2.1 S.2.2.2.2.1 a 2 (ws_c S.2.1 (nz q (by decide)) (cell_z q)) rfl ((xin_iff _ _).mp hka.2) hd K
    · exact hq.elim
  · exact hq.elim
theorem sx_lald (X : xCtx p R s m meth c o nL ini bytes A D cA ρ0 h0 hE scr) (IH : xIH p l e R s m args below meth c Q o rt nL ini bytes pcs A D cA ρ0 h0 hE cf scr B vE n) {ρ : Nat → Nat} {H : Heap} {locs : List Loc} {cells slots pc : Nat} {lsA : Array Slot} {is : List XI} {ls : LL} {st : List Value} {h : Hp} (S : zSt s nL A D cA ρ0 h0 hE ρ H locs cells slots lsA ls st h)  (hd : decode bytes pc = .ok (.laload, 1)) (hc : xchk o rt ini bytes pcs (pc + 1) is = true) (hq : xnRun cf scr B vE hE n (xStep cf scr B (.laload, 0) is ls st h)) : W p l e R s m args below meth c H locs cells slots Q (F0 m pc lsA (st.map (vR ρ))) := by
  simp only [xStep] at hq
  split at hq
  · rename_i i a r
    split at hq
    · rename_i hka
      exact va_lald X.1 X.2.1 X.2.2.2.2.2.1 S.2.2.2.2.1 a 3 (ws_c S.2.1 (nz hka.1 (by decide)) (cell_j hka.1)) rfl ((xin_iff _ _).mp hka.2) hd (IH _ _ _ _ hq _ _ _ _ _ _ _ hc (S.stk (al_l (al_t (al_t S.2.2.1)))))
    · exact hq.elim
  · exact hq.elim
theorem sx_aald (X : xCtx p R s m meth c o nL ini bytes A D cA ρ0 h0 hE scr) (IH : xIH p l e R s m args below meth c Q o rt nL ini bytes pcs A D cA ρ0 h0 hE cf scr B vE n) {ρ : Nat → Nat} {H : Heap} {locs : List Loc} {cells slots pc : Nat} {lsA : Array Slot} {is : List XI} {ls : LL} {st : List Value} {h : Hp} (S : zSt s nL A D cA ρ0 h0 hE ρ H locs cells slots lsA ls st h)  (hd : decode bytes pc = .ok (.aaload, 1)) (hc : xchk o rt ini bytes pcs (pc + 1) is = true) (hq : xnRun cf scr B vE hE n (xStep cf scr B (.aaload, 0) is ls st h)) : W p l e R s m args below meth c H locs cells slots Q (F0 m pc lsA (st.map (vR ρ))) := by
  simp only [xStep] at hq
  split at hq
  · rename_i i a r
    split at hq
    · rename_i hka
      have K := IH _ _ _ _ hq _ _ _ _ _ _ _ hc (S.stk (al_c (vOK_rf S.2.1 _ _) (al_t (al_t S.2.2.1))))
      refine va_aldq X.1 X.2.1 X.2.2.2.2.2.1 S.2.2.2.2.1 a 4 (ws_c S.2.1 (nz hka.1 (by decide)) (cell_t hka.1)) rfl ((xin_iff _ _).mp hka.2) hd (W.eq ?_ K)
      show F0 _ _ _ (_ :: _) = F0 _ _ _ (_ :: _)
      rw [vR_rf]
    · exact hq.elim
  · exact hq.elim
theorem sx_iast (X : xCtx p R s m meth c o nL ini bytes A D cA ρ0 h0 hE scr) (IH : xIH p l e R s m args below meth c Q o rt nL ini bytes pcs A D cA ρ0 h0 hE cf scr B vE n) {ρ : Nat → Nat} {H : Heap} {locs : List Loc} {cells slots pc : Nat} {lsA : Array Slot} {is : List XI} {ls : LL} {st : List Value} {h : Hp} (S : zSt s nL A D cA ρ0 h0 hE ρ H locs cells slots lsA ls st h)  (hd : decode bytes pc = .ok (.iastore, 1)) (hc : xchk o rt ini bytes pcs (pc + 1) is = true) (hq : xnRun cf scr B vE hE n (xStep cf scr B (.iastore, 0) is ls st h)) : W p l e R s m args below meth c H locs cells slots Q (F0 m pc lsA (st.map (vR ρ))) := by
  simp only [xStep] at hq
  split at hq
  · rename_i v i a r
    split at hq
    · rename_i hka
      exact va_iast X.1 X.2.1 X.2.2.2.2.2.1 S.2.2.2.2.1 S.2.2.2.2.2.1 S.2.2.2.2.2.2.1 a 0 (ws_c S.2.1 (nz hka.1 (by decide)) (cell_i hka.1)) rfl ((xin_iff _ _).mp hka.2) hd (fun H1 locs1 hP1 hD1 hS1 => IH _ _ _ _ hq _ _ _ _ _ _ _ hc (S.wr (fun v hv => List.mem_cons_of_mem _ (List.mem_cons_of_mem _ (List.mem_cons_of_mem _ hv))) S.2.1.sI rfl rfl rfl (ws_sI_arr (kd_lt S.2.1 (nz hka.1 (by decide))) 0 (cell_i hka.1) (Or.inl ⟨hka.1, rfl⟩)) hP1 hD1 hS1))
    · exact hq.elim
  · exact hq.elim
theorem sx_last (X : xCtx p R s m meth c o nL ini bytes A D cA ρ0 h0 hE scr) (IH : xIH p l e R s m args below meth c Q o rt nL ini bytes pcs A D cA ρ0 h0 hE cf scr B vE n) {ρ : Nat → Nat} {H : Heap} {locs : List Loc} {cells slots pc : Nat} {lsA : Array Slot} {is : List XI} {ls : LL} {st : List Value} {h : Hp} (S : zSt s nL A D cA ρ0 h0 hE ρ H locs cells slots lsA ls st h)  (hd : decode bytes pc = .ok (.lastore, 1)) (hc : xchk o rt ini bytes pcs (pc + 1) is = true) (hq : xnRun cf scr B vE hE n (xStep cf scr B (.lastore, 0) is ls st h)) : W p l e R s m args below meth c H locs cells slots Q (F0 m pc lsA (st.map (vR ρ))) := by
  simp only [xStep] at hq
  split at hq
  · rename_i v i a r
    split at hq
    · rename_i hka
      exact va_last X.1 X.2.1 X.2.2.2.2.2.1 S.2.2.2.2.1 S.2.2.2.2.2.1 S.2.2.2.2.2.2.1 a 3 (ws_c S.2.1 (nz hka.1 (by decide)) (cell_j hka.1)) rfl ((xin_iff _ _).mp hka.2) hd (fun H1 locs1 hP1 hD1 hS1 => IH _ _ _ _ hq _ _ _ _ _ _ _ hc (S.wr (fun v hv => List.mem_cons_of_mem _ (List.mem_cons_of_mem _ (List.mem_cons_of_mem _ hv))) S.2.1.sL rfl rfl rfl (ws_sL_arr (kd_lt S.2.1 (nz hka.1 (by decide))) hka.1) hP1 hD1 hS1))
    · exact hq.elim
  · exact hq.elim
theorem sx_bast (X : xCtx p R s m meth c o nL ini bytes A D cA ρ0 h0 hE scr) (IH : xIH p l e R s m args below meth c Q o rt nL ini bytes pcs A D cA ρ0 h0 hE cf scr B vE n) {ρ : Nat → Nat} {H : Heap} {locs : List Loc} {cells slots pc : Nat} {lsA : Array Slot} {is : List XI} {ls : LL} {st : List Value} {h : Hp} (S : zSt s nL A D cA ρ0 h0 hE ρ H locs cells slots lsA ls st h)  (hd : decode bytes pc = .ok (.bastore, 1)) (hc : xchk o rt ini bytes pcs (pc + 1) is = true) (hq : xnRun cf scr B vE hE n (xStep cf scr B (.bastore, 0) is ls st h)) : W p l e R s m args below meth c H locs cells slots Q (F0 m pc lsA (st.map (vR ρ))) := by
  simp only [xStep] at hq
  split at hq
  · rename_i v i a r
    split at hq
    · rename_i hin
      split at hq
      · rename_i q
        exact va_bast X.1 X.2.1 X.2.2.2.2.2.1 S.2.2.2.2.1 S.2.2.2.2.2.1 S.2.2.2.2.2.2.1 a 1 (ws_c S.2.1 (nz q (by decide)) (cell_b q)) rfl ((xin_iff _ _).mp hin) hd (fun H1 locs1 hP1 hD1 hS1 => IH _ _ _ _ hq _ _ _ _ _ _ _ hc (S.wr (fun v hv => List.mem_cons_of_mem _ (List.mem_cons_of_mem _ (List.mem_cons_of_mem _ hv))) S.2.1.sI rfl rfl rfl (ws_sI_arr (kd_lt S.2.1 (nz q (by decide))) 1 (cell_b q) (Or.inr (Or.inl ⟨q, rfl⟩))) hP1 hD1 hS1))
      · split at hq
        · rename_i q
          exact va_zast X.1 X.2.1 X.2.2.2.2.2.1 S.2.2.2.2.1 S.2.2.2.2.2.1 S.2.2.2.2.2.2.1 a 2 (ws_c S.2.1 (nz q (by decide)) (cell_z q)) rfl ((xin_iff _ _).mp hin) hd (fun H1 locs1 hP1 hD1 hS1 => IH _ _ _ _ hq _ _ _ _ _ _ _ hc (S.wr (fun v hv => List.mem_cons_of_mem _ (List.mem_cons_of_mem _ (List.mem_cons_of_mem _ hv))) S.2.1.sI rfl rfl rfl (ws_sI_arr (kd_lt S.2.1 (nz q (by decide))) 2 (cell_z q) (Or.inr (Or.inr ⟨q, rfl⟩))) hP1 hD1 hS1))
        · exact hq.elim
    · exact hq.elim
  · exact hq.elim
theorem sx_aast (X : xCtx p R s m meth c o nL ini bytes A D cA ρ0 h0 hE scr) (IH : xIH p l e R s m args below meth c Q o rt nL ini bytes pcs A D cA ρ0 h0 hE cf scr B vE n) {ρ : Nat → Nat} {H : Heap} {locs : List Loc} {cells slots pc : Nat} {lsA : Array Slot} {is : List XI} {ls : LL} {st : List Value} {h : Hp} (S : zSt s nL A D cA ρ0 h0 hE ρ H locs cells slots lsA ls st h)  (hd : decode bytes pc = .ok (.aastore, 1)) (hc : xchk o rt ini bytes pcs (pc + 1) is = true) (hq : xnRun cf scr B vE hE n (xStep cf scr B (.aastore, 0) is ls st h)) : W p l e R s m args below meth c H locs cells slots Q (F0 m pc lsA (st.map (vR ρ))) := by
  simp only [xStep] at hq
  split at hq
  · rename_i v i a r
    split at hq
    · rename_i hka
      have hv9 := ws_c (ρ := ρ) (cA := cA) S.2.1 (nz hka.2.1 (by decide)) (cell_obj (ci := 8) (by decide) hka.2.1)
      exact va_astq X.1 X.2.1 X.2.2.2.2.2.1 S.2.2.2.2.1 S.2.2.2.2.2.1 S.2.2.2.2.2.2.1 a 4 v 8 (r := (rn 8, Tx 8, Nx 8)) (ws_c S.2.1 (nz hka.1 (by decide)) (cell_t hka.1)) rfl hv9 rfl ((xin_iff _ _).mp hka.2.2) hd (fun H1 locs1 hP1 hD1 hS1 => IH _ _ _ _ hq _ _ _ _ _ _ _ hc (S.wr (fun v hv => List.mem_cons_of_mem _ (List.mem_cons_of_mem _ (List.mem_cons_of_mem _ hv))) (S.2.1.sR (al_h S.2.2.1 _ rfl)) rfl rfl rfl (ws_sR_arr (kd_lt S.2.1 (nz hka.1 (by decide))) hka.1) hP1 hD1 hS1))
    · exact hq.elim
  · exact hq.elim
end
