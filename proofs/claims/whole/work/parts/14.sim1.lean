/-! One step of the interpreter is the machine's. -/
section
variable {p : Program} {l : Launch} {e : Env} {R : Room} {s : State} {m : MethodId} {args : Array Value} {below : List Frame} {meth : Method} {c : Code} {Q : State → Prop} {o rt nL : Nat} {ini : Bool} {bytes : ByteArray} {pcs : List Nat} {A : Nat → Prop} {D : va_G} {cA : Nat → ClassId} {ρ0 : Nat → Nat} {h0 hE : Hp} {scr : Option (Nat × (Nat → Int32))} {cf : Nat → List Value → Hp → Option XR} {B : Nat → List XI} {vE : Option Value} {n : Nat}
def xSim (p : Program) (l : Launch) (e : Env) (R : Room) (s : State) (m : MethodId) (args : Array Value) (below : List Frame) (meth : Method) (c : Code) (Q : State → Prop) (o rt nL : Nat) (ini : Bool) (bytes : ByteArray) (pcs : List Nat) (A : Nat → Prop) (D : va_G) (cA : Nat → ClassId) (ρ0 : Nat → Nat) (h0 hE : Hp) (is : List XI) (ls : LL) (st : List Value) (h : Hp) : Prop :=
  ∀ (ρ : Nat → Nat) (H : Heap) (locs : List Loc) (cells slots pc : Nat) (lsA : Array Slot), xchk o rt ini bytes pcs pc is = true → zSt s nL A D cA ρ0 h0 hE ρ H locs cells slots lsA ls st h → W p l e R s m args below meth c H locs cells slots Q (F0 m pc lsA (st.map (vR ρ)))
def xIH (p : Program) (l : Launch) (e : Env) (R : Room) (s : State) (m : MethodId) (args : Array Value) (below : List Frame) (meth : Method) (c : Code) (Q : State → Prop) (o rt nL : Nat) (ini : Bool) (bytes : ByteArray) (pcs : List Nat) (A : Nat → Prop) (D : va_G) (cA : Nat → ClassId) (ρ0 : Nat → Nat) (h0 hE : Hp) (cf : Nat → List Value → Hp → Option XR) (scr : Option (Nat × (Nat → Int32))) (B : Nat → List XI) (vE : Option Value) (n : Nat) : Prop :=
  ∀ (is : List XI) (ls : LL) (st : List Value) (h : Hp), xRun cf scr B n is ls st h = some (vE, hE) → xSim p l e R s m args below meth c Q o rt nL ini bytes pcs A D cA ρ0 h0 hE is ls st h
def xnRun (cf : Nat → List Value → Hp → Option XR) (scr : Option (Nat × (Nat → Int32))) (B : Nat → List XI) (vE : Option Value) (hE : Hp) (n : Nat) (q : XN) : Prop := match q with
  | some (.inl r) => xRun cf scr B n r.1 r.2.1 r.2.2.1 r.2.2.2 = some (vE, hE)
  | some (.inr r) => r = (vE, hE)
  | none => False
theorem al_i {h : Hp} {z : Int32} {r : List Value} (hs : ∀ v ∈ r, vOK h v) : ∀ v ∈ (Value.int z :: r), vOK h v := fun v hv => by
  rcases List.mem_cons.mp hv with rfl | hv
  · exact vOK_int _
  · exact hs v hv
theorem al_l {h : Hp} {z : Int64} {r : List Value} (hs : ∀ v ∈ r, vOK h v) : ∀ v ∈ (Value.long z :: r), vOK h v := fun v hv => by
  rcases List.mem_cons.mp hv with rfl | hv
  · exact vOK_long _
  · exact hs v hv
theorem al_c {h : Hp} {w : Value} {r : List Value} (hw : vOK h w) (hs : ∀ v ∈ r, vOK h v) : ∀ v ∈ (w :: r), vOK h v := fun v hv => by
  rcases List.mem_cons.mp hv with rfl | hv
  · exact hw
  · exact hs v hv
theorem al_t {h : Hp} {w : Value} {r : List Value} (hs : ∀ v ∈ (w :: r), vOK h v) : ∀ v ∈ r, vOK h v := fun v hv => hs v (List.mem_cons_of_mem _ hv)
theorem al_h {h : Hp} {w : Value} {r : List Value} (hs : ∀ v ∈ (w :: r), vOK h v) : vOK h w := hs w List.mem_cons_self
theorem sx_iadd (X : xCtx p R s m meth c o nL ini bytes A D cA ρ0 h0 hE scr) (IH : xIH p l e R s m args below meth c Q o rt nL ini bytes pcs A D cA ρ0 h0 hE cf scr B vE n) {ρ : Nat → Nat} {H : Heap} {locs : List Loc} {cells slots pc : Nat} {lsA : Array Slot} {is : List XI} {ls : LL} {st : List Value} {h : Hp} (S : zSt s nL A D cA ρ0 h0 hE ρ H locs cells slots lsA ls st h)  (hd : decode bytes pc = .ok (.iadd, 1)) (hc : xchk o rt ini bytes pcs (pc + 1) is = true) (hq : xnRun cf scr B vE hE n (xStep cf scr B (.iadd, 0) is ls st h)) : W p l e R s m args below meth c H locs cells slots Q (F0 m pc lsA (st.map (vR ρ))) := by
  simp only [xStep] at hq
  unfold x2i at hq
  split at hq
  · exact lv_iadd X.1 X.2.1 hd (IH _ _ _ _ hq _ _ _ _ _ _ _ hc (S.stk (al_i (al_t (al_t S.2.2.1)))))
  · exact hq.elim
theorem sx_isub (X : xCtx p R s m meth c o nL ini bytes A D cA ρ0 h0 hE scr) (IH : xIH p l e R s m args below meth c Q o rt nL ini bytes pcs A D cA ρ0 h0 hE cf scr B vE n) {ρ : Nat → Nat} {H : Heap} {locs : List Loc} {cells slots pc : Nat} {lsA : Array Slot} {is : List XI} {ls : LL} {st : List Value} {h : Hp} (S : zSt s nL A D cA ρ0 h0 hE ρ H locs cells slots lsA ls st h)  (hd : decode bytes pc = .ok (.isub, 1)) (hc : xchk o rt ini bytes pcs (pc + 1) is = true) (hq : xnRun cf scr B vE hE n (xStep cf scr B (.isub, 0) is ls st h)) : W p l e R s m args below meth c H locs cells slots Q (F0 m pc lsA (st.map (vR ρ))) := by
  simp only [xStep] at hq
  unfold x2i at hq
  split at hq
  · exact lv_isub X.1 X.2.1 hd (IH _ _ _ _ hq _ _ _ _ _ _ _ hc (S.stk (al_i (al_t (al_t S.2.2.1)))))
  · exact hq.elim
theorem sx_imul (X : xCtx p R s m meth c o nL ini bytes A D cA ρ0 h0 hE scr) (IH : xIH p l e R s m args below meth c Q o rt nL ini bytes pcs A D cA ρ0 h0 hE cf scr B vE n) {ρ : Nat → Nat} {H : Heap} {locs : List Loc} {cells slots pc : Nat} {lsA : Array Slot} {is : List XI} {ls : LL} {st : List Value} {h : Hp} (S : zSt s nL A D cA ρ0 h0 hE ρ H locs cells slots lsA ls st h)  (hd : decode bytes pc = .ok (.imul, 1)) (hc : xchk o rt ini bytes pcs (pc + 1) is = true) (hq : xnRun cf scr B vE hE n (xStep cf scr B (.imul, 0) is ls st h)) : W p l e R s m args below meth c H locs cells slots Q (F0 m pc lsA (st.map (vR ρ))) := by
  simp only [xStep] at hq
  unfold x2i at hq
  split at hq
  · exact lv_imul X.1 X.2.1 hd (IH _ _ _ _ hq _ _ _ _ _ _ _ hc (S.stk (al_i (al_t (al_t S.2.2.1)))))
  · exact hq.elim
theorem sx_iand (X : xCtx p R s m meth c o nL ini bytes A D cA ρ0 h0 hE scr) (IH : xIH p l e R s m args below meth c Q o rt nL ini bytes pcs A D cA ρ0 h0 hE cf scr B vE n) {ρ : Nat → Nat} {H : Heap} {locs : List Loc} {cells slots pc : Nat} {lsA : Array Slot} {is : List XI} {ls : LL} {st : List Value} {h : Hp} (S : zSt s nL A D cA ρ0 h0 hE ρ H locs cells slots lsA ls st h)  (hd : decode bytes pc = .ok (.iand, 1)) (hc : xchk o rt ini bytes pcs (pc + 1) is = true) (hq : xnRun cf scr B vE hE n (xStep cf scr B (.iand, 0) is ls st h)) : W p l e R s m args below meth c H locs cells slots Q (F0 m pc lsA (st.map (vR ρ))) := by
  simp only [xStep] at hq
  unfold x2i at hq
  split at hq
  · exact lv_iand X.1 X.2.1 hd (IH _ _ _ _ hq _ _ _ _ _ _ _ hc (S.stk (al_i (al_t (al_t S.2.2.1)))))
  · exact hq.elim
theorem sx_ior (X : xCtx p R s m meth c o nL ini bytes A D cA ρ0 h0 hE scr) (IH : xIH p l e R s m args below meth c Q o rt nL ini bytes pcs A D cA ρ0 h0 hE cf scr B vE n) {ρ : Nat → Nat} {H : Heap} {locs : List Loc} {cells slots pc : Nat} {lsA : Array Slot} {is : List XI} {ls : LL} {st : List Value} {h : Hp} (S : zSt s nL A D cA ρ0 h0 hE ρ H locs cells slots lsA ls st h)  (hd : decode bytes pc = .ok (.ior, 1)) (hc : xchk o rt ini bytes pcs (pc + 1) is = true) (hq : xnRun cf scr B vE hE n (xStep cf scr B (.ior, 0) is ls st h)) : W p l e R s m args below meth c H locs cells slots Q (F0 m pc lsA (st.map (vR ρ))) := by
  simp only [xStep] at hq
  unfold x2i at hq
  split at hq
  · exact lv_ior X.1 X.2.1 hd (IH _ _ _ _ hq _ _ _ _ _ _ _ hc (S.stk (al_i (al_t (al_t S.2.2.1)))))
  · exact hq.elim
theorem sx_ixor (X : xCtx p R s m meth c o nL ini bytes A D cA ρ0 h0 hE scr) (IH : xIH p l e R s m args below meth c Q o rt nL ini bytes pcs A D cA ρ0 h0 hE cf scr B vE n) {ρ : Nat → Nat} {H : Heap} {locs : List Loc} {cells slots pc : Nat} {lsA : Array Slot} {is : List XI} {ls : LL} {st : List Value} {h : Hp} (S : zSt s nL A D cA ρ0 h0 hE ρ H locs cells slots lsA ls st h)  (hd : decode bytes pc = .ok (.ixor, 1)) (hc : xchk o rt ini bytes pcs (pc + 1) is = true) (hq : xnRun cf scr B vE hE n (xStep cf scr B (.ixor, 0) is ls st h)) : W p l e R s m args below meth c H locs cells slots Q (F0 m pc lsA (st.map (vR ρ))) := by
  simp only [xStep] at hq
  unfold x2i at hq
  split at hq
  · exact lv_ixor X.1 X.2.1 hd (IH _ _ _ _ hq _ _ _ _ _ _ _ hc (S.stk (al_i (al_t (al_t S.2.2.1)))))
  · exact hq.elim
theorem sx_ishl (X : xCtx p R s m meth c o nL ini bytes A D cA ρ0 h0 hE scr) (IH : xIH p l e R s m args below meth c Q o rt nL ini bytes pcs A D cA ρ0 h0 hE cf scr B vE n) {ρ : Nat → Nat} {H : Heap} {locs : List Loc} {cells slots pc : Nat} {lsA : Array Slot} {is : List XI} {ls : LL} {st : List Value} {h : Hp} (S : zSt s nL A D cA ρ0 h0 hE ρ H locs cells slots lsA ls st h)  (hd : decode bytes pc = .ok (.ishl, 1)) (hc : xchk o rt ini bytes pcs (pc + 1) is = true) (hq : xnRun cf scr B vE hE n (xStep cf scr B (.ishl, 0) is ls st h)) : W p l e R s m args below meth c H locs cells slots Q (F0 m pc lsA (st.map (vR ρ))) := by
  simp only [xStep] at hq
  unfold x2i at hq
  split at hq
  · exact lv_ishl X.1 X.2.1 hd (IH _ _ _ _ hq _ _ _ _ _ _ _ hc (S.stk (al_i (al_t (al_t S.2.2.1)))))
  · exact hq.elim
theorem sx_ishr (X : xCtx p R s m meth c o nL ini bytes A D cA ρ0 h0 hE scr) (IH : xIH p l e R s m args below meth c Q o rt nL ini bytes pcs A D cA ρ0 h0 hE cf scr B vE n) {ρ : Nat → Nat} {H : Heap} {locs : List Loc} {cells slots pc : Nat} {lsA : Array Slot} {is : List XI} {ls : LL} {st : List Value} {h : Hp} (S : zSt s nL A D cA ρ0 h0 hE ρ H locs cells slots lsA ls st h)  (hd : decode bytes pc = .ok (.ishr, 1)) (hc : xchk o rt ini bytes pcs (pc + 1) is = true) (hq : xnRun cf scr B vE hE n (xStep cf scr B (.ishr, 0) is ls st h)) : W p l e R s m args below meth c H locs cells slots Q (F0 m pc lsA (st.map (vR ρ))) := by
  simp only [xStep] at hq
  unfold x2i at hq
  split at hq
  · exact lv_ishr X.1 X.2.1 hd (IH _ _ _ _ hq _ _ _ _ _ _ _ hc (S.stk (al_i (al_t (al_t S.2.2.1)))))
  · exact hq.elim
theorem sx_iushr (X : xCtx p R s m meth c o nL ini bytes A D cA ρ0 h0 hE scr) (IH : xIH p l e R s m args below meth c Q o rt nL ini bytes pcs A D cA ρ0 h0 hE cf scr B vE n) {ρ : Nat → Nat} {H : Heap} {locs : List Loc} {cells slots pc : Nat} {lsA : Array Slot} {is : List XI} {ls : LL} {st : List Value} {h : Hp} (S : zSt s nL A D cA ρ0 h0 hE ρ H locs cells slots lsA ls st h)  (hd : decode bytes pc = .ok (.iushr, 1)) (hc : xchk o rt ini bytes pcs (pc + 1) is = true) (hq : xnRun cf scr B vE hE n (xStep cf scr B (.iushr, 0) is ls st h)) : W p l e R s m args below meth c H locs cells slots Q (F0 m pc lsA (st.map (vR ρ))) := by
  simp only [xStep] at hq
  unfold x2i at hq
  split at hq
  · exact lv_iushr X.1 X.2.1 hd rfl (IH _ _ _ _ hq _ _ _ _ _ _ _ hc (S.stk (al_i (al_t (al_t S.2.2.1)))))
  · exact hq.elim
theorem sx_ladd (X : xCtx p R s m meth c o nL ini bytes A D cA ρ0 h0 hE scr) (IH : xIH p l e R s m args below meth c Q o rt nL ini bytes pcs A D cA ρ0 h0 hE cf scr B vE n) {ρ : Nat → Nat} {H : Heap} {locs : List Loc} {cells slots pc : Nat} {lsA : Array Slot} {is : List XI} {ls : LL} {st : List Value} {h : Hp} (S : zSt s nL A D cA ρ0 h0 hE ρ H locs cells slots lsA ls st h)  (hd : decode bytes pc = .ok (.ladd, 1)) (hc : xchk o rt ini bytes pcs (pc + 1) is = true) (hq : xnRun cf scr B vE hE n (xStep cf scr B (.ladd, 0) is ls st h)) : W p l e R s m args below meth c H locs cells slots Q (F0 m pc lsA (st.map (vR ρ))) := by
  simp only [xStep] at hq
  unfold x2l at hq
  split at hq
  · exact lv_ladd X.1 X.2.1 hd (IH _ _ _ _ hq _ _ _ _ _ _ _ hc (S.stk (al_l (al_t (al_t S.2.2.1)))))
  · exact hq.elim
theorem sx_lsub (X : xCtx p R s m meth c o nL ini bytes A D cA ρ0 h0 hE scr) (IH : xIH p l e R s m args below meth c Q o rt nL ini bytes pcs A D cA ρ0 h0 hE cf scr B vE n) {ρ : Nat → Nat} {H : Heap} {locs : List Loc} {cells slots pc : Nat} {lsA : Array Slot} {is : List XI} {ls : LL} {st : List Value} {h : Hp} (S : zSt s nL A D cA ρ0 h0 hE ρ H locs cells slots lsA ls st h)  (hd : decode bytes pc = .ok (.lsub, 1)) (hc : xchk o rt ini bytes pcs (pc + 1) is = true) (hq : xnRun cf scr B vE hE n (xStep cf scr B (.lsub, 0) is ls st h)) : W p l e R s m args below meth c H locs cells slots Q (F0 m pc lsA (st.map (vR ρ))) := by
  simp only [xStep] at hq
  unfold x2l at hq
  split at hq
  · exact lv_lsub X.1 X.2.1 hd (IH _ _ _ _ hq _ _ _ _ _ _ _ hc (S.stk (al_l (al_t (al_t S.2.2.1)))))
  · exact hq.elim
theorem sx_lmul (X : xCtx p R s m meth c o nL ini bytes A D cA ρ0 h0 hE scr) (IH : xIH p l e R s m args below meth c Q o rt nL ini bytes pcs A D cA ρ0 h0 hE cf scr B vE n) {ρ : Nat → Nat} {H : Heap} {locs : List Loc} {cells slots pc : Nat} {lsA : Array Slot} {is : List XI} {ls : LL} {st : List Value} {h : Hp} (S : zSt s nL A D cA ρ0 h0 hE ρ H locs cells slots lsA ls st h)  (hd : decode bytes pc = .ok (.lmul, 1)) (hc : xchk o rt ini bytes pcs (pc + 1) is = true) (hq : xnRun cf scr B vE hE n (xStep cf scr B (.lmul, 0) is ls st h)) : W p l e R s m args below meth c H locs cells slots Q (F0 m pc lsA (st.map (vR ρ))) := by
  simp only [xStep] at hq
  unfold x2l at hq
  split at hq
  · exact lv_lmul X.1 X.2.1 hd (IH _ _ _ _ hq _ _ _ _ _ _ _ hc (S.stk (al_l (al_t (al_t S.2.2.1)))))
  · exact hq.elim
theorem sx_land (X : xCtx p R s m meth c o nL ini bytes A D cA ρ0 h0 hE scr) (IH : xIH p l e R s m args below meth c Q o rt nL ini bytes pcs A D cA ρ0 h0 hE cf scr B vE n) {ρ : Nat → Nat} {H : Heap} {locs : List Loc} {cells slots pc : Nat} {lsA : Array Slot} {is : List XI} {ls : LL} {st : List Value} {h : Hp} (S : zSt s nL A D cA ρ0 h0 hE ρ H locs cells slots lsA ls st h)  (hd : decode bytes pc = .ok (.land, 1)) (hc : xchk o rt ini bytes pcs (pc + 1) is = true) (hq : xnRun cf scr B vE hE n (xStep cf scr B (.land, 0) is ls st h)) : W p l e R s m args below meth c H locs cells slots Q (F0 m pc lsA (st.map (vR ρ))) := by
  simp only [xStep] at hq
  unfold x2l at hq
  split at hq
  · exact lv_land X.1 X.2.1 hd (IH _ _ _ _ hq _ _ _ _ _ _ _ hc (S.stk (al_l (al_t (al_t S.2.2.1)))))
  · exact hq.elim
theorem sx_lor (X : xCtx p R s m meth c o nL ini bytes A D cA ρ0 h0 hE scr) (IH : xIH p l e R s m args below meth c Q o rt nL ini bytes pcs A D cA ρ0 h0 hE cf scr B vE n) {ρ : Nat → Nat} {H : Heap} {locs : List Loc} {cells slots pc : Nat} {lsA : Array Slot} {is : List XI} {ls : LL} {st : List Value} {h : Hp} (S : zSt s nL A D cA ρ0 h0 hE ρ H locs cells slots lsA ls st h)  (hd : decode bytes pc = .ok (.lor, 1)) (hc : xchk o rt ini bytes pcs (pc + 1) is = true) (hq : xnRun cf scr B vE hE n (xStep cf scr B (.lor, 0) is ls st h)) : W p l e R s m args below meth c H locs cells slots Q (F0 m pc lsA (st.map (vR ρ))) := by
  simp only [xStep] at hq
  unfold x2l at hq
  split at hq
  · exact lv_lor X.1 X.2.1 hd (IH _ _ _ _ hq _ _ _ _ _ _ _ hc (S.stk (al_l (al_t (al_t S.2.2.1)))))
  · exact hq.elim
theorem sx_idiv (X : xCtx p R s m meth c o nL ini bytes A D cA ρ0 h0 hE scr) (IH : xIH p l e R s m args below meth c Q o rt nL ini bytes pcs A D cA ρ0 h0 hE cf scr B vE n) {ρ : Nat → Nat} {H : Heap} {locs : List Loc} {cells slots pc : Nat} {lsA : Array Slot} {is : List XI} {ls : LL} {st : List Value} {h : Hp} (S : zSt s nL A D cA ρ0 h0 hE ρ H locs cells slots lsA ls st h)  (hd : decode bytes pc = .ok (.idiv, 1)) (hc : xchk o rt ini bytes pcs (pc + 1) is = true) (hq : xnRun cf scr B vE hE n (xStep cf scr B (.idiv, 0) is ls st h)) : W p l e R s m args below meth c H locs cells slots Q (F0 m pc lsA (st.map (vR ρ))) := by
  simp only [xStep] at hq
  split at hq
  · split at hq
    · exact hq.elim
    · rename_i hne
      exact lv_idiv X.1 X.2.1 hd hne (IH _ _ _ _ hq _ _ _ _ _ _ _ hc (S.stk (al_i (al_t (al_t S.2.2.1)))))
  · exact hq.elim
theorem sx_irem (X : xCtx p R s m meth c o nL ini bytes A D cA ρ0 h0 hE scr) (IH : xIH p l e R s m args below meth c Q o rt nL ini bytes pcs A D cA ρ0 h0 hE cf scr B vE n) {ρ : Nat → Nat} {H : Heap} {locs : List Loc} {cells slots pc : Nat} {lsA : Array Slot} {is : List XI} {ls : LL} {st : List Value} {h : Hp} (S : zSt s nL A D cA ρ0 h0 hE ρ H locs cells slots lsA ls st h)  (hd : decode bytes pc = .ok (.irem, 1)) (hc : xchk o rt ini bytes pcs (pc + 1) is = true) (hq : xnRun cf scr B vE hE n (xStep cf scr B (.irem, 0) is ls st h)) : W p l e R s m args below meth c H locs cells slots Q (F0 m pc lsA (st.map (vR ρ))) := by
  simp only [xStep] at hq
  split at hq
  · split at hq
    · exact hq.elim
    · rename_i hne
      exact lv_irem X.1 X.2.1 hd hne (IH _ _ _ _ hq _ _ _ _ _ _ _ hc (S.stk (al_i (al_t (al_t S.2.2.1)))))
  · exact hq.elim
theorem sx_ldiv (X : xCtx p R s m meth c o nL ini bytes A D cA ρ0 h0 hE scr) (IH : xIH p l e R s m args below meth c Q o rt nL ini bytes pcs A D cA ρ0 h0 hE cf scr B vE n) {ρ : Nat → Nat} {H : Heap} {locs : List Loc} {cells slots pc : Nat} {lsA : Array Slot} {is : List XI} {ls : LL} {st : List Value} {h : Hp} (S : zSt s nL A D cA ρ0 h0 hE ρ H locs cells slots lsA ls st h)  (hd : decode bytes pc = .ok (.ldiv, 1)) (hc : xchk o rt ini bytes pcs (pc + 1) is = true) (hq : xnRun cf scr B vE hE n (xStep cf scr B (.ldiv, 0) is ls st h)) : W p l e R s m args below meth c H locs cells slots Q (F0 m pc lsA (st.map (vR ρ))) := by
  simp only [xStep] at hq
  split at hq
  · split at hq
    · exact hq.elim
    · rename_i hne
      exact lv_ldiv X.1 X.2.1 hd hne (IH _ _ _ _ hq _ _ _ _ _ _ _ hc (S.stk (al_l (al_t (al_t S.2.2.1)))))
  · exact hq.elim
theorem sx_lrem (X : xCtx p R s m meth c o nL ini bytes A D cA ρ0 h0 hE scr) (IH : xIH p l e R s m args below meth c Q o rt nL ini bytes pcs A D cA ρ0 h0 hE cf scr B vE n) {ρ : Nat → Nat} {H : Heap} {locs : List Loc} {cells slots pc : Nat} {lsA : Array Slot} {is : List XI} {ls : LL} {st : List Value} {h : Hp} (S : zSt s nL A D cA ρ0 h0 hE ρ H locs cells slots lsA ls st h)  (hd : decode bytes pc = .ok (.lrem, 1)) (hc : xchk o rt ini bytes pcs (pc + 1) is = true) (hq : xnRun cf scr B vE hE n (xStep cf scr B (.lrem, 0) is ls st h)) : W p l e R s m args below meth c H locs cells slots Q (F0 m pc lsA (st.map (vR ρ))) := by
  simp only [xStep] at hq
  split at hq
  · split at hq
    · exact hq.elim
    · rename_i hne
      exact lv_lrem X.1 X.2.1 hd hne (IH _ _ _ _ hq _ _ _ _ _ _ _ hc (S.stk (al_l (al_t (al_t S.2.2.1)))))
  · exact hq.elim
theorem sx_lshl (X : xCtx p R s m meth c o nL ini bytes A D cA ρ0 h0 hE scr) (IH : xIH p l e R s m args below meth c Q o rt nL ini bytes pcs A D cA ρ0 h0 hE cf scr B vE n) {ρ : Nat → Nat} {H : Heap} {locs : List Loc} {cells slots pc : Nat} {lsA : Array Slot} {is : List XI} {ls : LL} {st : List Value} {h : Hp} (S : zSt s nL A D cA ρ0 h0 hE ρ H locs cells slots lsA ls st h)  (hd : decode bytes pc = .ok (.lshl, 1)) (hc : xchk o rt ini bytes pcs (pc + 1) is = true) (hq : xnRun cf scr B vE hE n (xStep cf scr B (.lshl, 0) is ls st h)) : W p l e R s m args below meth c H locs cells slots Q (F0 m pc lsA (st.map (vR ρ))) := by
  simp only [xStep] at hq
  split at hq
  · exact lv_lshl X.1 X.2.1 hd rfl (IH _ _ _ _ hq _ _ _ _ _ _ _ hc (S.stk (al_l (al_t (al_t S.2.2.1)))))
  · exact hq.elim
theorem sx_lushr (X : xCtx p R s m meth c o nL ini bytes A D cA ρ0 h0 hE scr) (IH : xIH p l e R s m args below meth c Q o rt nL ini bytes pcs A D cA ρ0 h0 hE cf scr B vE n) {ρ : Nat → Nat} {H : Heap} {locs : List Loc} {cells slots pc : Nat} {lsA : Array Slot} {is : List XI} {ls : LL} {st : List Value} {h : Hp} (S : zSt s nL A D cA ρ0 h0 hE ρ H locs cells slots lsA ls st h)  (hd : decode bytes pc = .ok (.lushr, 1)) (hc : xchk o rt ini bytes pcs (pc + 1) is = true) (hq : xnRun cf scr B vE hE n (xStep cf scr B (.lushr, 0) is ls st h)) : W p l e R s m args below meth c H locs cells slots Q (F0 m pc lsA (st.map (vR ρ))) := by
  simp only [xStep] at hq
  split at hq
  · exact lv_lushr X.1 X.2.1 hd rfl (IH _ _ _ _ hq _ _ _ _ _ _ _ hc (S.stk (al_l (al_t (al_t S.2.2.1)))))
  · exact hq.elim
theorem sx_lcmp (X : xCtx p R s m meth c o nL ini bytes A D cA ρ0 h0 hE scr) (IH : xIH p l e R s m args below meth c Q o rt nL ini bytes pcs A D cA ρ0 h0 hE cf scr B vE n) {ρ : Nat → Nat} {H : Heap} {locs : List Loc} {cells slots pc : Nat} {lsA : Array Slot} {is : List XI} {ls : LL} {st : List Value} {h : Hp} (S : zSt s nL A D cA ρ0 h0 hE ρ H locs cells slots lsA ls st h)  (hd : decode bytes pc = .ok (.lcmp, 1)) (hc : xchk o rt ini bytes pcs (pc + 1) is = true) (hq : xnRun cf scr B vE hE n (xStep cf scr B (.lcmp, 0) is ls st h)) : W p l e R s m args below meth c H locs cells slots Q (F0 m pc lsA (st.map (vR ρ))) := by
  simp only [xStep] at hq
  split at hq
  · exact W.lcmp X.1 X.2.1 hd (IH _ _ _ _ hq _ _ _ _ _ _ _ hc (S.stk (al_i (al_t (al_t S.2.2.1)))))
  · exact hq.elim
theorem sx_i2l (X : xCtx p R s m meth c o nL ini bytes A D cA ρ0 h0 hE scr) (IH : xIH p l e R s m args below meth c Q o rt nL ini bytes pcs A D cA ρ0 h0 hE cf scr B vE n) {ρ : Nat → Nat} {H : Heap} {locs : List Loc} {cells slots pc : Nat} {lsA : Array Slot} {is : List XI} {ls : LL} {st : List Value} {h : Hp} (S : zSt s nL A D cA ρ0 h0 hE ρ H locs cells slots lsA ls st h)  (hd : decode bytes pc = .ok (.i2l, 1)) (hc : xchk o rt ini bytes pcs (pc + 1) is = true) (hq : xnRun cf scr B vE hE n (xStep cf scr B (.i2l, 0) is ls st h)) : W p l e R s m args below meth c H locs cells slots Q (F0 m pc lsA (st.map (vR ρ))) := by
  simp only [xStep] at hq
  split at hq
  · exact lv_i2l X.1 X.2.1 hd rfl (IH _ _ _ _ hq _ _ _ _ _ _ _ hc (S.stk (al_l (al_t S.2.2.1))))
  · exact hq.elim
theorem sx_l2i (X : xCtx p R s m meth c o nL ini bytes A D cA ρ0 h0 hE scr) (IH : xIH p l e R s m args below meth c Q o rt nL ini bytes pcs A D cA ρ0 h0 hE cf scr B vE n) {ρ : Nat → Nat} {H : Heap} {locs : List Loc} {cells slots pc : Nat} {lsA : Array Slot} {is : List XI} {ls : LL} {st : List Value} {h : Hp} (S : zSt s nL A D cA ρ0 h0 hE ρ H locs cells slots lsA ls st h)  (hd : decode bytes pc = .ok (.l2i, 1)) (hc : xchk o rt ini bytes pcs (pc + 1) is = true) (hq : xnRun cf scr B vE hE n (xStep cf scr B (.l2i, 0) is ls st h)) : W p l e R s m args below meth c H locs cells slots Q (F0 m pc lsA (st.map (vR ρ))) := by
  simp only [xStep] at hq
  split at hq
  · exact lv_l2i X.1 X.2.1 hd rfl (IH _ _ _ _ hq _ _ _ _ _ _ _ hc (S.stk (al_i (al_t S.2.2.1))))
  · exact hq.elim
theorem sx_i2b (X : xCtx p R s m meth c o nL ini bytes A D cA ρ0 h0 hE scr) (IH : xIH p l e R s m args below meth c Q o rt nL ini bytes pcs A D cA ρ0 h0 hE cf scr B vE n) {ρ : Nat → Nat} {H : Heap} {locs : List Loc} {cells slots pc : Nat} {lsA : Array Slot} {is : List XI} {ls : LL} {st : List Value} {h : Hp} (S : zSt s nL A D cA ρ0 h0 hE ρ H locs cells slots lsA ls st h)  (hd : decode bytes pc = .ok (.i2b, 1)) (hc : xchk o rt ini bytes pcs (pc + 1) is = true) (hq : xnRun cf scr B vE hE n (xStep cf scr B (.i2b, 0) is ls st h)) : W p l e R s m args below meth c H locs cells slots Q (F0 m pc lsA (st.map (vR ρ))) := by
  simp only [xStep] at hq
  split at hq
  · exact lv_i2b X.1 X.2.1 hd rfl (IH _ _ _ _ hq _ _ _ _ _ _ _ hc (S.stk (al_i (al_t S.2.2.1))))
  · exact hq.elim
theorem sx_iconst (X : xCtx p R s m meth c o nL ini bytes A D cA ρ0 h0 hE scr) (IH : xIH p l e R s m args below meth c Q o rt nL ini bytes pcs A D cA ρ0 h0 hE cf scr B vE n) {ρ : Nat → Nat} {H : Heap} {locs : List Loc} {cells slots pc : Nat} {lsA : Array Slot} {is : List XI} {ls : LL} {st : List Value} {h : Hp} (S : zSt s nL A D cA ρ0 h0 hE ρ H locs cells slots lsA ls st h) {k : Int} (hd : decode bytes pc = .ok (.iconst k, 1)) (hc : xchk o rt ini bytes pcs (pc + 1) is = true) (hq : xnRun cf scr B vE hE n (xStep cf scr B (.iconst k, 0) is ls st h)) : W p l e R s m args below meth c H locs cells slots Q (F0 m pc lsA (st.map (vR ρ))) := by
  simp only [xStep] at hq
  exact lv_iconst X.1 X.2.1 hd rfl (IH _ _ _ _ hq _ _ _ _ _ _ _ hc (S.stk (al_i S.2.2.1)))
theorem sx_bipush (X : xCtx p R s m meth c o nL ini bytes A D cA ρ0 h0 hE scr) (IH : xIH p l e R s m args below meth c Q o rt nL ini bytes pcs A D cA ρ0 h0 hE cf scr B vE n) {ρ : Nat → Nat} {H : Heap} {locs : List Loc} {cells slots pc : Nat} {lsA : Array Slot} {is : List XI} {ls : LL} {st : List Value} {h : Hp} (S : zSt s nL A D cA ρ0 h0 hE ρ H locs cells slots lsA ls st h) {k : Int} (hd : decode bytes pc = .ok (.bipush k, 2)) (hc : xchk o rt ini bytes pcs (pc + 2) is = true) (hq : xnRun cf scr B vE hE n (xStep cf scr B (.iconst (Int8.ofInt k).toInt32.toInt, 0) is ls st h)) : W p l e R s m args below meth c H locs cells slots Q (F0 m pc lsA (st.map (vR ρ))) := by
  simp only [xStep] at hq
  exact lv_bipush X.1 X.2.1 hd (v := Int32.ofInt (Int8.ofInt k).toInt32.toInt) (Int32.ofInt_toInt _).symm (IH _ _ _ _ hq _ _ _ _ _ _ _ hc (S.stk (al_i S.2.2.1)))
theorem sx_sipush (X : xCtx p R s m meth c o nL ini bytes A D cA ρ0 h0 hE scr) (IH : xIH p l e R s m args below meth c Q o rt nL ini bytes pcs A D cA ρ0 h0 hE cf scr B vE n) {ρ : Nat → Nat} {H : Heap} {locs : List Loc} {cells slots pc : Nat} {lsA : Array Slot} {is : List XI} {ls : LL} {st : List Value} {h : Hp} (S : zSt s nL A D cA ρ0 h0 hE ρ H locs cells slots lsA ls st h) {k : Int} (hd : decode bytes pc = .ok (.sipush k, 3)) (hc : xchk o rt ini bytes pcs (pc + 3) is = true) (hq : xnRun cf scr B vE hE n (xStep cf scr B (.iconst (Int16.ofInt k).toInt32.toInt, 0) is ls st h)) : W p l e R s m args below meth c H locs cells slots Q (F0 m pc lsA (st.map (vR ρ))) := by
  simp only [xStep] at hq
  exact lv_sipush X.1 X.2.1 hd (v := Int32.ofInt (Int16.ofInt k).toInt32.toInt) (Int32.ofInt_toInt _).symm (IH _ _ _ _ hq _ _ _ _ _ _ _ hc (S.stk (al_i S.2.2.1)))
theorem lc_2 : ∀ k : Fin 2, Int64.ofNat (k : Nat) = Int64.ofInt (k.val : Int) := by decide
theorem sx_lconst (X : xCtx p R s m meth c o nL ini bytes A D cA ρ0 h0 hE scr) (IH : xIH p l e R s m args below meth c Q o rt nL ini bytes pcs A D cA ρ0 h0 hE cf scr B vE n) {ρ : Nat → Nat} {H : Heap} {locs : List Loc} {cells slots pc : Nat} {lsA : Array Slot} {is : List XI} {ls : LL} {st : List Value} {h : Hp} (S : zSt s nL A D cA ρ0 h0 hE ρ H locs cells slots lsA ls st h) {k : Fin 2} (hd : decode bytes pc = .ok (.lconst k, 1)) (hc : xchk o rt ini bytes pcs (pc + 1) is = true) (hq : xnRun cf scr B vE hE n (xStep cf scr B (.sipush (k.val : Int), 0) is ls st h)) : W p l e R s m args below meth c H locs cells slots Q (F0 m pc lsA (st.map (vR ρ))) := by
  simp only [xStep] at hq
  exact lv_lconst X.1 X.2.1 hd (v := Int64.ofInt (k.val : Int)) (lc_2 k) (IH _ _ _ _ hq _ _ _ _ _ _ _ hc (S.stk (al_l S.2.2.1)))
theorem sx_null (X : xCtx p R s m meth c o nL ini bytes A D cA ρ0 h0 hE scr) (IH : xIH p l e R s m args below meth c Q o rt nL ini bytes pcs A D cA ρ0 h0 hE cf scr B vE n) {ρ : Nat → Nat} {H : Heap} {locs : List Loc} {cells slots pc : Nat} {lsA : Array Slot} {is : List XI} {ls : LL} {st : List Value} {h : Hp} (S : zSt s nL A D cA ρ0 h0 hE ρ H locs cells slots lsA ls st h)  (hd : decode bytes pc = .ok (.aconst_null, 1)) (hc : xchk o rt ini bytes pcs (pc + 1) is = true) (hq : xnRun cf scr B vE hE n (xStep cf scr B (.aconst_null, 0) is ls st h)) : W p l e R s m args below meth c H locs cells slots Q (F0 m pc lsA (st.map (vR ρ))) := by
  simp only [xStep] at hq
  exact lv_null X.1 X.2.1 hd (IH _ _ _ _ hq _ _ _ _ _ _ _ hc (S.stk (al_c vOK_null S.2.2.1)))
theorem sx_iload (X : xCtx p R s m meth c o nL ini bytes A D cA ρ0 h0 hE scr) (IH : xIH p l e R s m args below meth c Q o rt nL ini bytes pcs A D cA ρ0 h0 hE cf scr B vE n) {ρ : Nat → Nat} {H : Heap} {locs : List Loc} {cells slots pc : Nat} {lsA : Array Slot} {is : List XI} {ls : LL} {st : List Value} {h : Hp} (S : zSt s nL A D cA ρ0 h0 hE ρ H locs cells slots lsA ls st h) {i : Nat} (hd : decode bytes pc = .ok (.iload i, 2)) (hc : xchk o rt ini bytes pcs (pc + 2) is = true) (hq : xnRun cf scr B vE hE n (xStep cf scr B (.iload i, 0) is ls st h)) : W p l e R s m args below meth c H locs cells slots Q (F0 m pc lsA (st.map (vR ρ))) := by
  simp only [xStep] at hq
  split at hq
  · rename_i v hv
    exact lv_iload X.1 X.2.1 hd (S.1.2.2.2 _ _ hv) (IH _ _ _ _ hq _ _ _ _ _ _ _ hc (S.stk (al_i S.2.2.1)))
  · exact hq.elim
theorem sx_lload (X : xCtx p R s m meth c o nL ini bytes A D cA ρ0 h0 hE scr) (IH : xIH p l e R s m args below meth c Q o rt nL ini bytes pcs A D cA ρ0 h0 hE cf scr B vE n) {ρ : Nat → Nat} {H : Heap} {locs : List Loc} {cells slots pc : Nat} {lsA : Array Slot} {is : List XI} {ls : LL} {st : List Value} {h : Hp} (S : zSt s nL A D cA ρ0 h0 hE ρ H locs cells slots lsA ls st h) {i : Nat} (hd : decode bytes pc = .ok (.lload i, 2)) (hc : xchk o rt ini bytes pcs (pc + 2) is = true) (hq : xnRun cf scr B vE hE n (xStep cf scr B (.lload i, 0) is ls st h)) : W p l e R s m args below meth c H locs cells slots Q (F0 m pc lsA (st.map (vR ρ))) := by
  simp only [xStep] at hq
  split at hq
  · rename_i v hv
    exact lv_lload X.1 X.2.1 hd (S.1.2.2.2 _ _ hv) (IH _ _ _ _ hq _ _ _ _ _ _ _ hc (S.stk (al_l S.2.2.1)))
  · exact hq.elim
theorem sx_aload (X : xCtx p R s m meth c o nL ini bytes A D cA ρ0 h0 hE scr) (IH : xIH p l e R s m args below meth c Q o rt nL ini bytes pcs A D cA ρ0 h0 hE cf scr B vE n) {ρ : Nat → Nat} {H : Heap} {locs : List Loc} {cells slots pc : Nat} {lsA : Array Slot} {is : List XI} {ls : LL} {st : List Value} {h : Hp} (S : zSt s nL A D cA ρ0 h0 hE ρ H locs cells slots lsA ls st h) {i : Nat} (hd : decode bytes pc = .ok (.aload i, 2)) (hc : xchk o rt ini bytes pcs (pc + 2) is = true) (hq : xnRun cf scr B vE hE n (xStep cf scr B (.aload i, 0) is ls st h)) : W p l e R s m args below meth c H locs cells slots Q (F0 m pc lsA (st.map (vR ρ))) := by
  simp only [xStep] at hq
  split at hq
  · rename_i v hv
    exact lv_aload X.1 X.2.1 hd (S.1.2.2.2 _ _ hv) (IH _ _ _ _ hq _ _ _ _ _ _ _ hc (S.stk (al_c (S.2.2.2.1 _ _ hv) S.2.2.1)))
  · rename_i hv
    exact lv_aloadN X.1 X.2.1 hd (S.1.2.2.2 _ _ hv) (IH _ _ _ _ hq _ _ _ _ _ _ _ hc (S.stk (al_c vOK_null S.2.2.1)))
  · exact hq.elim
theorem sx_iload_n (X : xCtx p R s m meth c o nL ini bytes A D cA ρ0 h0 hE scr) (IH : xIH p l e R s m args below meth c Q o rt nL ini bytes pcs A D cA ρ0 h0 hE cf scr B vE n) {ρ : Nat → Nat} {H : Heap} {locs : List Loc} {cells slots pc : Nat} {lsA : Array Slot} {is : List XI} {ls : LL} {st : List Value} {h : Hp} (S : zSt s nL A D cA ρ0 h0 hE ρ H locs cells slots lsA ls st h) {i : Fin 4} (hd : decode bytes pc = .ok (.iload_n i, 1)) (hc : xchk o rt ini bytes pcs (pc + 1) is = true) (hq : xnRun cf scr B vE hE n (xStep cf scr B (.iload i.val, 0) is ls st h)) : W p l e R s m args below meth c H locs cells slots Q (F0 m pc lsA (st.map (vR ρ))) := by
  simp only [xStep] at hq
  split at hq
  · rename_i v hv
    exact lv_iload_n X.1 X.2.1 hd rfl (S.1.2.2.2 _ _ hv) (IH _ _ _ _ hq _ _ _ _ _ _ _ hc (S.stk (al_i S.2.2.1)))
  · exact hq.elim
theorem sx_lload_n (X : xCtx p R s m meth c o nL ini bytes A D cA ρ0 h0 hE scr) (IH : xIH p l e R s m args below meth c Q o rt nL ini bytes pcs A D cA ρ0 h0 hE cf scr B vE n) {ρ : Nat → Nat} {H : Heap} {locs : List Loc} {cells slots pc : Nat} {lsA : Array Slot} {is : List XI} {ls : LL} {st : List Value} {h : Hp} (S : zSt s nL A D cA ρ0 h0 hE ρ H locs cells slots lsA ls st h) {i : Fin 4} (hd : decode bytes pc = .ok (.lload_n i, 1)) (hc : xchk o rt ini bytes pcs (pc + 1) is = true) (hq : xnRun cf scr B vE hE n (xStep cf scr B (.lload i.val, 0) is ls st h)) : W p l e R s m args below meth c H locs cells slots Q (F0 m pc lsA (st.map (vR ρ))) := by
  simp only [xStep] at hq
  split at hq
  · rename_i v hv
    exact lv_lload_n X.1 X.2.1 hd rfl (S.1.2.2.2 _ _ hv) (IH _ _ _ _ hq _ _ _ _ _ _ _ hc (S.stk (al_l S.2.2.1)))
  · exact hq.elim
theorem sx_aload_n (X : xCtx p R s m meth c o nL ini bytes A D cA ρ0 h0 hE scr) (IH : xIH p l e R s m args below meth c Q o rt nL ini bytes pcs A D cA ρ0 h0 hE cf scr B vE n) {ρ : Nat → Nat} {H : Heap} {locs : List Loc} {cells slots pc : Nat} {lsA : Array Slot} {is : List XI} {ls : LL} {st : List Value} {h : Hp} (S : zSt s nL A D cA ρ0 h0 hE ρ H locs cells slots lsA ls st h) {i : Fin 4} (hd : decode bytes pc = .ok (.aload_n i, 1)) (hc : xchk o rt ini bytes pcs (pc + 1) is = true) (hq : xnRun cf scr B vE hE n (xStep cf scr B (.aload i.val, 0) is ls st h)) : W p l e R s m args below meth c H locs cells slots Q (F0 m pc lsA (st.map (vR ρ))) := by
  simp only [xStep] at hq
  split at hq
  · rename_i v hv
    exact lv_aload_n X.1 X.2.1 hd rfl (S.1.2.2.2 _ _ hv) (IH _ _ _ _ hq _ _ _ _ _ _ _ hc (S.stk (al_c (S.2.2.2.1 _ _ hv) S.2.2.1)))
  · rename_i hv
    exact lv_aload_nN X.1 X.2.1 hd rfl (S.1.2.2.2 _ _ hv) (IH _ _ _ _ hq _ _ _ _ _ _ _ hc (S.stk (al_c vOK_null S.2.2.1)))
  · exact hq.elim
theorem sx_istore (X : xCtx p R s m meth c o nL ini bytes A D cA ρ0 h0 hE scr) (IH : xIH p l e R s m args below meth c Q o rt nL ini bytes pcs A D cA ρ0 h0 hE cf scr B vE n) {ρ : Nat → Nat} {H : Heap} {locs : List Loc} {cells slots pc : Nat} {lsA : Array Slot} {is : List XI} {ls : LL} {st : List Value} {h : Hp} (S : zSt s nL A D cA ρ0 h0 hE ρ H locs cells slots lsA ls st h) {i : Nat} (hd : decode bytes pc = .ok (.istore i, 2)) (hc : xchk o rt ini bytes pcs (pc + 2) is = true) (hq : xnRun cf scr B vE hE n (xStep cf scr B (.istore i, 0) is ls st h)) : W p l e R s m args below meth c H locs cells slots Q (F0 m pc lsA (st.map (vR ρ))) := by
  simp only [xStep] at hq
  split at hq
  · split at hq
    · exact (lv_istore X.1 X.2.1 hd S.1.has (by rw [← S.1.2.2.1]; assumption) rfl (fun lsB hb => IH _ _ _ _ hq _ _ _ _ _ _ _ hc (S.loc (al_t S.2.2.1) (S.1.set1 hb) (lset1_ok (vOK_int _) S.2.2.2.1))))
    · exact hq.elim
  · exact hq.elim
theorem sx_astore (X : xCtx p R s m meth c o nL ini bytes A D cA ρ0 h0 hE scr) (IH : xIH p l e R s m args below meth c Q o rt nL ini bytes pcs A D cA ρ0 h0 hE cf scr B vE n) {ρ : Nat → Nat} {H : Heap} {locs : List Loc} {cells slots pc : Nat} {lsA : Array Slot} {is : List XI} {ls : LL} {st : List Value} {h : Hp} (S : zSt s nL A D cA ρ0 h0 hE ρ H locs cells slots lsA ls st h) {i : Nat} (hd : decode bytes pc = .ok (.astore i, 2)) (hc : xchk o rt ini bytes pcs (pc + 2) is = true) (hq : xnRun cf scr B vE hE n (xStep cf scr B (.astore i, 0) is ls st h)) : W p l e R s m args below meth c H locs cells slots Q (F0 m pc lsA (st.map (vR ρ))) := by
  simp only [xStep] at hq
  split at hq
  · split at hq
    · exact (lv_astore X.1 X.2.1 hd S.1.has (by rw [← S.1.2.2.1]; assumption) rfl (fun lsB hb => IH _ _ _ _ hq _ _ _ _ _ _ _ hc (S.loc (al_t S.2.2.1) (S.1.set1 hb) (lset1_ok (al_h S.2.2.1) S.2.2.2.1))))
    · exact hq.elim
  · split at hq
    · exact (lv_astoreN X.1 X.2.1 hd S.1.has (by rw [← S.1.2.2.1]; assumption) rfl (fun lsB hb => IH _ _ _ _ hq _ _ _ _ _ _ _ hc (S.loc (al_t S.2.2.1) (S.1.set1 hb) (lset1_ok vOK_null S.2.2.2.1))))
    · exact hq.elim
  · exact hq.elim
theorem sx_lstore (X : xCtx p R s m meth c o nL ini bytes A D cA ρ0 h0 hE scr) (IH : xIH p l e R s m args below meth c Q o rt nL ini bytes pcs A D cA ρ0 h0 hE cf scr B vE n) {ρ : Nat → Nat} {H : Heap} {locs : List Loc} {cells slots pc : Nat} {lsA : Array Slot} {is : List XI} {ls : LL} {st : List Value} {h : Hp} (S : zSt s nL A D cA ρ0 h0 hE ρ H locs cells slots lsA ls st h) {i : Nat} (hd : decode bytes pc = .ok (.lstore i, 2)) (hc : xchk o rt ini bytes pcs (pc + 2) is = true) (hq : xnRun cf scr B vE hE n (xStep cf scr B (.lstore i, 0) is ls st h)) : W p l e R s m args below meth c H locs cells slots Q (F0 m pc lsA (st.map (vR ρ))) := by
  simp only [xStep] at hq
  split at hq
  · split at hq
    · exact (lv_lstore X.1 X.2.1 hd S.1.has (by rw [← S.1.2.2.1]; assumption) rfl (fun lsB hb => IH _ _ _ _ hq _ _ _ _ _ _ _ hc (S.loc (al_t S.2.2.1) (S.1.set2 hb) (lclr_ok (lset1_ok (vOK_long _) S.2.2.2.1)))))
    · exact hq.elim
  · exact hq.elim
theorem sx_istore_n (X : xCtx p R s m meth c o nL ini bytes A D cA ρ0 h0 hE scr) (IH : xIH p l e R s m args below meth c Q o rt nL ini bytes pcs A D cA ρ0 h0 hE cf scr B vE n) {ρ : Nat → Nat} {H : Heap} {locs : List Loc} {cells slots pc : Nat} {lsA : Array Slot} {is : List XI} {ls : LL} {st : List Value} {h : Hp} (S : zSt s nL A D cA ρ0 h0 hE ρ H locs cells slots lsA ls st h) {i : Fin 4} (hd : decode bytes pc = .ok (.istore_n i, 1)) (hc : xchk o rt ini bytes pcs (pc + 1) is = true) (hq : xnRun cf scr B vE hE n (xStep cf scr B (.istore i.val, 0) is ls st h)) : W p l e R s m args below meth c H locs cells slots Q (F0 m pc lsA (st.map (vR ρ))) := by
  simp only [xStep] at hq
  split at hq
  · split at hq
    · exact (lv_istore_n X.1 X.2.1 hd rfl S.1.has (by rw [← S.1.2.2.1]; assumption) rfl (fun lsB hb => IH _ _ _ _ hq _ _ _ _ _ _ _ hc (S.loc (al_t S.2.2.1) (S.1.set1 hb) (lset1_ok (vOK_int _) S.2.2.2.1))))
    · exact hq.elim
  · exact hq.elim
theorem sx_astore_n (X : xCtx p R s m meth c o nL ini bytes A D cA ρ0 h0 hE scr) (IH : xIH p l e R s m args below meth c Q o rt nL ini bytes pcs A D cA ρ0 h0 hE cf scr B vE n) {ρ : Nat → Nat} {H : Heap} {locs : List Loc} {cells slots pc : Nat} {lsA : Array Slot} {is : List XI} {ls : LL} {st : List Value} {h : Hp} (S : zSt s nL A D cA ρ0 h0 hE ρ H locs cells slots lsA ls st h) {i : Fin 4} (hd : decode bytes pc = .ok (.astore_n i, 1)) (hc : xchk o rt ini bytes pcs (pc + 1) is = true) (hq : xnRun cf scr B vE hE n (xStep cf scr B (.astore i.val, 0) is ls st h)) : W p l e R s m args below meth c H locs cells slots Q (F0 m pc lsA (st.map (vR ρ))) := by
  simp only [xStep] at hq
  split at hq
  · split at hq
    · exact (lv_astore_n X.1 X.2.1 hd rfl S.1.has (by rw [← S.1.2.2.1]; assumption) rfl (fun lsB hb => IH _ _ _ _ hq _ _ _ _ _ _ _ hc (S.loc (al_t S.2.2.1) (S.1.set1 hb) (lset1_ok (al_h S.2.2.1) S.2.2.2.1))))
    · exact hq.elim
  · split at hq
    · exact (lv_astore_nN X.1 X.2.1 hd rfl S.1.has (by rw [← S.1.2.2.1]; assumption) rfl (fun lsB hb => IH _ _ _ _ hq _ _ _ _ _ _ _ hc (S.loc (al_t S.2.2.1) (S.1.set1 hb) (lset1_ok vOK_null S.2.2.2.1))))
    · exact hq.elim
  · exact hq.elim
theorem sx_lstore_n (X : xCtx p R s m meth c o nL ini bytes A D cA ρ0 h0 hE scr) (IH : xIH p l e R s m args below meth c Q o rt nL ini bytes pcs A D cA ρ0 h0 hE cf scr B vE n) {ρ : Nat → Nat} {H : Heap} {locs : List Loc} {cells slots pc : Nat} {lsA : Array Slot} {is : List XI} {ls : LL} {st : List Value} {h : Hp} (S : zSt s nL A D cA ρ0 h0 hE ρ H locs cells slots lsA ls st h) {i : Fin 4} (hd : decode bytes pc = .ok (.lstore_n i, 1)) (hc : xchk o rt ini bytes pcs (pc + 1) is = true) (hq : xnRun cf scr B vE hE n (xStep cf scr B (.lstore i.val, 0) is ls st h)) : W p l e R s m args below meth c H locs cells slots Q (F0 m pc lsA (st.map (vR ρ))) := by
  simp only [xStep] at hq
  split at hq
  · split at hq
    · exact (lv_lstore_n X.1 X.2.1 hd rfl S.1.has (by rw [← S.1.2.2.1]; assumption) rfl (fun lsB hb => IH _ _ _ _ hq _ _ _ _ _ _ _ hc (S.loc (al_t S.2.2.1) (S.1.set2 hb) (lclr_ok (lset1_ok (vOK_long _) S.2.2.2.1)))))
    · exact hq.elim
  · exact hq.elim
theorem sx_iinc (X : xCtx p R s m meth c o nL ini bytes A D cA ρ0 h0 hE scr) (IH : xIH p l e R s m args below meth c Q o rt nL ini bytes pcs A D cA ρ0 h0 hE cf scr B vE n) {ρ : Nat → Nat} {H : Heap} {locs : List Loc} {cells slots pc : Nat} {lsA : Array Slot} {is : List XI} {ls : LL} {st : List Value} {h : Hp} (S : zSt s nL A D cA ρ0 h0 hE ρ H locs cells slots lsA ls st h) {i : Nat} {k : Int} (hd : decode bytes pc = .ok (.iinc i k, 3)) (hc : xchk o rt ini bytes pcs (pc + 3) is = true) (hq : xnRun cf scr B vE hE n (xStep cf scr B (.iinc i k, 0) is ls st h)) : W p l e R s m args below meth c H locs cells slots Q (F0 m pc lsA (st.map (vR ρ))) := by
  simp only [xStep] at hq
  split at hq
  · rename_i v hv
    split at hq
    · obtain ⟨j, hj⟩ := List.getElem?_of_mem (prs_mem (ρ := ρ) (q := (i, Value.int v)).mpr ⟨_, hv, rfl⟩)
      exact lv_iinc X.1 X.2.1 hd S.1.has hj rfl (by rw [← S.1.2.2.1]; assumption) rfl (fun lsB hb => IH _ _ _ _ hq _ _ _ _ _ _ _ hc (S.loc S.2.2.1 (S.1.set1 hb) (lset1_ok (vOK_int _) S.2.2.2.1)))
    · exact hq.elim
  · exact hq.elim
theorem sx_dup (X : xCtx p R s m meth c o nL ini bytes A D cA ρ0 h0 hE scr) (IH : xIH p l e R s m args below meth c Q o rt nL ini bytes pcs A D cA ρ0 h0 hE cf scr B vE n) {ρ : Nat → Nat} {H : Heap} {locs : List Loc} {cells slots pc : Nat} {lsA : Array Slot} {is : List XI} {ls : LL} {st : List Value} {h : Hp} (S : zSt s nL A D cA ρ0 h0 hE ρ H locs cells slots lsA ls st h)  (hd : decode bytes pc = .ok (.dup, 1)) (hc : xchk o rt ini bytes pcs (pc + 1) is = true) (hq : xnRun cf scr B vE hE n (xStep cf scr B (.dup, 0) is ls st h)) : W p l e R s m args below meth c H locs cells slots Q (F0 m pc lsA (st.map (vR ρ))) := by
  simp only [xStep] at hq
  split at hq
  · split at hq
    · rename_i hcat
      exact lv_dup X.1 X.2.1 hd ((vR_cat _ _).trans hcat) (IH _ _ _ _ hq _ _ _ _ _ _ _ hc (S.stk (al_c (al_h S.2.2.1) S.2.2.1)))
    · exact hq.elim
  · exact hq.elim
theorem sx_dup2 (X : xCtx p R s m meth c o nL ini bytes A D cA ρ0 h0 hE scr) (IH : xIH p l e R s m args below meth c Q o rt nL ini bytes pcs A D cA ρ0 h0 hE cf scr B vE n) {ρ : Nat → Nat} {H : Heap} {locs : List Loc} {cells slots pc : Nat} {lsA : Array Slot} {is : List XI} {ls : LL} {st : List Value} {h : Hp} (S : zSt s nL A D cA ρ0 h0 hE ρ H locs cells slots lsA ls st h)  (hd : decode bytes pc = .ok (.dup2, 1)) (hc : xchk o rt ini bytes pcs (pc + 1) is = true) (hq : xnRun cf scr B vE hE n (xStep cf scr B (.dup2, 0) is ls st h)) : W p l e R s m args below meth c H locs cells slots Q (F0 m pc lsA (st.map (vR ρ))) := by
  simp only [xStep] at hq
  split at hq
  · exact lv_dup2_2 X.1 X.2.1 hd rfl (IH _ _ _ _ hq _ _ _ _ _ _ _ hc (S.stk (al_c (al_h S.2.2.1) S.2.2.1)))
  · split at hq
    · rename_i hcat
      exact lv_dup2_11 X.1 X.2.1 hd ((vR_cat _ _).trans hcat.1) ((vR_cat _ _).trans hcat.2) (IH _ _ _ _ hq _ _ _ _ _ _ _ hc (S.stk (al_c (al_h S.2.2.1) (al_c (al_h (al_t S.2.2.1)) S.2.2.1))))
    · exact hq.elim
  · exact hq.elim
theorem sx_pop (X : xCtx p R s m meth c o nL ini bytes A D cA ρ0 h0 hE scr) (IH : xIH p l e R s m args below meth c Q o rt nL ini bytes pcs A D cA ρ0 h0 hE cf scr B vE n) {ρ : Nat → Nat} {H : Heap} {locs : List Loc} {cells slots pc : Nat} {lsA : Array Slot} {is : List XI} {ls : LL} {st : List Value} {h : Hp} (S : zSt s nL A D cA ρ0 h0 hE ρ H locs cells slots lsA ls st h)  (hd : decode bytes pc = .ok (.pop, 1)) (hc : xchk o rt ini bytes pcs (pc + 1) is = true) (hq : xnRun cf scr B vE hE n (xStep cf scr B (.pop, 0) is ls st h)) : W p l e R s m args below meth c H locs cells slots Q (F0 m pc lsA (st.map (vR ρ))) := by
  simp only [xStep] at hq
  split at hq
  · split at hq
    · rename_i hcat
      exact lv_pop X.1 X.2.1 hd ((vR_cat _ _).trans hcat) (IH _ _ _ _ hq _ _ _ _ _ _ _ hc (S.stk (al_t S.2.2.1)))
    · exact hq.elim
  · exact hq.elim
theorem sx_pop2 (X : xCtx p R s m meth c o nL ini bytes A D cA ρ0 h0 hE scr) (IH : xIH p l e R s m args below meth c Q o rt nL ini bytes pcs A D cA ρ0 h0 hE cf scr B vE n) {ρ : Nat → Nat} {H : Heap} {locs : List Loc} {cells slots pc : Nat} {lsA : Array Slot} {is : List XI} {ls : LL} {st : List Value} {h : Hp} (S : zSt s nL A D cA ρ0 h0 hE ρ H locs cells slots lsA ls st h)  (hd : decode bytes pc = .ok (.pop2, 1)) (hc : xchk o rt ini bytes pcs (pc + 1) is = true) (hq : xnRun cf scr B vE hE n (xStep cf scr B (.pop2, 0) is ls st h)) : W p l e R s m args below meth c H locs cells slots Q (F0 m pc lsA (st.map (vR ρ))) := by
  simp only [xStep] at hq
  split at hq
  · exact lv_pop2_2 X.1 X.2.1 hd rfl (IH _ _ _ _ hq _ _ _ _ _ _ _ hc (S.stk (al_t S.2.2.1)))
  · exact hq.elim
theorem sx_goto (X : xCtx p R s m meth c o nL ini bytes A D cA ρ0 h0 hE scr) (IH : xIH p l e R s m args below meth c Q o rt nL ini bytes pcs A D cA ρ0 h0 hE cf scr B vE n) {ρ : Nat → Nat} {H : Heap} {locs : List Loc} {cells slots pc : Nat} {lsA : Array Slot} {is : List XI} {ls : LL} {st : List Value} {h : Hp} (S : zSt s nL A D cA ρ0 h0 hE ρ H locs cells slots lsA ls st h) (hB : ∀ (b t : Nat), pcs[b]? = some t → xchk o rt ini bytes pcs t (B b) = true) {off : Int} {b : Nat} (hg : xtg pcs pc off = some b) (hd : decode bytes pc = .ok (.goto off, 3)) (hq : xnRun cf scr B vE hE n (xStep cf scr B (.goto (b : Int), 0) is ls st h)) : W p l e R s m args below meth c H locs cells slots Q (F0 m pc lsA (st.map (vR ρ))) := by
  simp only [xStep, Int.toNat_natCast] at hq
  obtain ⟨t, h1, h2⟩ := xtg_spec hg
  exact lv_goto X.1 X.2.1 hd h2 (IH _ _ _ _ hq _ _ _ _ _ _ _ (hB b t h1) S)
theorem sx_if_icmp (X : xCtx p R s m meth c o nL ini bytes A D cA ρ0 h0 hE scr) (IH : xIH p l e R s m args below meth c Q o rt nL ini bytes pcs A D cA ρ0 h0 hE cf scr B vE n) {ρ : Nat → Nat} {H : Heap} {locs : List Loc} {cells slots pc : Nat} {lsA : Array Slot} {is : List XI} {ls : LL} {st : List Value} {h : Hp} (S : zSt s nL A D cA ρ0 h0 hE ρ H locs cells slots lsA ls st h) (hB : ∀ (b t : Nat), pcs[b]? = some t → xchk o rt ini bytes pcs t (B b) = true) {off : Int} {b : Nat} (hg : xtg pcs pc off = some b) {cc9 : Jvm.ClassFile.Cond} (hd : decode bytes pc = .ok (.if_icmp cc9 off, 3)) (hc : xchk o rt ini bytes pcs (pc + 3) is = true) (hq : xnRun cf scr B vE hE n (xStep cf scr B (.if_icmp cc9 (b : Int), 0) is ls st h)) : W p l e R s m args below meth c H locs cells slots Q (F0 m pc lsA (st.map (vR ρ))) := by
  simp only [xStep, Int.toNat_natCast] at hq
  obtain ⟨t, h1, h2⟩ := xtg_spec hg
  split at hq
  · have kt := fun hx => IH _ _ _ _ (show xnRun cf scr B vE hE n (xgo (B b) ls _ h) from by rw [if_pos hx] at hq; exact hq) _ _ _ _ _ _ _ (hB b t h1) (S.stk (al_t (al_t S.2.2.1)))
    have kf := fun hx => IH _ _ _ _ (show xnRun cf scr B vE hE n (xgo is ls _ h) from by rw [if_neg hx] at hq; exact hq) _ _ _ _ _ _ _ hc (S.stk (al_t (al_t S.2.2.1)))
    cases cc9
    · exact lv_icmp_eq X.1 X.2.1 hd h2 (fun z => kt ((xdec_iff _ _ _).mpr z)) (fun z => kf (fun y => z ((xdec_iff _ _ _).mp y)))
    · exact lv_icmp_ne X.1 X.2.1 hd h2 (fun z => kt ((xdec_iff _ _ _).mpr z)) (fun z => kf (fun y => (xdec_iff _ _ _).mp y z))
    · exact lv_icmp_lt X.1 X.2.1 hd h2 (fun z => kt ((xdec_iff _ _ _).mpr z)) (fun z => kf (fun y => z ((xdec_iff _ _ _).mp y)))
    · exact lv_icmp_ge X.1 X.2.1 hd h2 (fun z => kt ((xdec_iff _ _ _).mpr z)) (fun z => kf (fun y => z ((xdec_iff _ _ _).mp y)))
    · exact lv_icmp_gt X.1 X.2.1 hd h2 (fun z => kt ((xdec_iff _ _ _).mpr z)) (fun z => kf (fun y => z ((xdec_iff _ _ _).mp y)))
    · exact lv_icmp_le X.1 X.2.1 hd h2 (fun z => kt ((xdec_iff _ _ _).mpr z)) (fun z => kf (fun y => z ((xdec_iff _ _ _).mp y)))
  · exact hq.elim
theorem sx_ifCond (X : xCtx p R s m meth c o nL ini bytes A D cA ρ0 h0 hE scr) (IH : xIH p l e R s m args below meth c Q o rt nL ini bytes pcs A D cA ρ0 h0 hE cf scr B vE n) {ρ : Nat → Nat} {H : Heap} {locs : List Loc} {cells slots pc : Nat} {lsA : Array Slot} {is : List XI} {ls : LL} {st : List Value} {h : Hp} (S : zSt s nL A D cA ρ0 h0 hE ρ H locs cells slots lsA ls st h) (hB : ∀ (b t : Nat), pcs[b]? = some t → xchk o rt ini bytes pcs t (B b) = true) {off : Int} {b : Nat} (hg : xtg pcs pc off = some b) {cc9 : Jvm.ClassFile.Cond} (hd : decode bytes pc = .ok (.ifCond cc9 off, 3)) (hc : xchk o rt ini bytes pcs (pc + 3) is = true) (hq : xnRun cf scr B vE hE n (xStep cf scr B (.ifCond cc9 (b : Int), 0) is ls st h)) : W p l e R s m args below meth c H locs cells slots Q (F0 m pc lsA (st.map (vR ρ))) := by
  simp only [xStep, Int.toNat_natCast] at hq
  obtain ⟨t, h1, h2⟩ := xtg_spec hg
  split at hq
  · have kt := fun hx => IH _ _ _ _ (show xnRun cf scr B vE hE n (xgo (B b) ls _ h) from by rw [if_pos hx] at hq; exact hq) _ _ _ _ _ _ _ (hB b t h1) (S.stk (al_t S.2.2.1))
    have kf := fun hx => IH _ _ _ _ (show xnRun cf scr B vE hE n (xgo is ls _ h) from by rw [if_neg hx] at hq; exact hq) _ _ _ _ _ _ _ hc (S.stk (al_t S.2.2.1))
    cases cc9
    · exact lv_if_eq X.1 X.2.1 hd h2 (fun z => kt ((xdec_iff _ _ _).mpr z)) (fun z => kf (fun y => z ((xdec_iff _ _ _).mp y)))
    · exact lv_if_ne X.1 X.2.1 hd h2 (fun z => kt ((xdec_iff _ _ _).mpr z)) (fun z => kf (fun y => (xdec_iff _ _ _).mp y z))
    · exact lv_if_lt X.1 X.2.1 hd h2 (fun z => kt ((xdec_iff _ _ _).mpr z)) (fun z => kf (fun y => z ((xdec_iff _ _ _).mp y)))
    · exact lv_if_ge X.1 X.2.1 hd h2 (fun z => kt ((xdec_iff _ _ _).mpr z)) (fun z => kf (fun y => z ((xdec_iff _ _ _).mp y)))
    · exact lv_if_gt X.1 X.2.1 hd h2 (fun z => kt ((xdec_iff _ _ _).mpr z)) (fun z => kf (fun y => z ((xdec_iff _ _ _).mp y)))
    · exact lv_if_le X.1 X.2.1 hd h2 (fun z => kt ((xdec_iff _ _ _).mpr z)) (fun z => kf (fun y => z ((xdec_iff _ _ _).mp y)))
  · exact hq.elim
theorem sx_ifnull (X : xCtx p R s m meth c o nL ini bytes A D cA ρ0 h0 hE scr) (IH : xIH p l e R s m args below meth c Q o rt nL ini bytes pcs A D cA ρ0 h0 hE cf scr B vE n) {ρ : Nat → Nat} {H : Heap} {locs : List Loc} {cells slots pc : Nat} {lsA : Array Slot} {is : List XI} {ls : LL} {st : List Value} {h : Hp} (S : zSt s nL A D cA ρ0 h0 hE ρ H locs cells slots lsA ls st h) (hB : ∀ (b t : Nat), pcs[b]? = some t → xchk o rt ini bytes pcs t (B b) = true) {off : Int} {b : Nat} (hg : xtg pcs pc off = some b) (hd : decode bytes pc = .ok (.ifnull off, 3)) (hc : xchk o rt ini bytes pcs (pc + 3) is = true) (hq : xnRun cf scr B vE hE n (xStep cf scr B (.ifnull (b : Int), 0) is ls st h)) : W p l e R s m args below meth c H locs cells slots Q (F0 m pc lsA (st.map (vR ρ))) := by
  simp only [xStep, Int.toNat_natCast] at hq
  obtain ⟨t, h1, h2⟩ := xtg_spec hg
  split at hq
  · exact lv_ifnullN X.1 X.2.1 hd h2 (IH _ _ _ _ hq _ _ _ _ _ _ _ (hB b t h1) (S.stk (al_t S.2.2.1)))
  · exact lv_ifnull X.1 X.2.1 hd (IH _ _ _ _ hq _ _ _ _ _ _ _ hc (S.stk (al_t S.2.2.1)))
  · exact hq.elim
theorem sx_ifnonnull (X : xCtx p R s m meth c o nL ini bytes A D cA ρ0 h0 hE scr) (IH : xIH p l e R s m args below meth c Q o rt nL ini bytes pcs A D cA ρ0 h0 hE cf scr B vE n) {ρ : Nat → Nat} {H : Heap} {locs : List Loc} {cells slots pc : Nat} {lsA : Array Slot} {is : List XI} {ls : LL} {st : List Value} {h : Hp} (S : zSt s nL A D cA ρ0 h0 hE ρ H locs cells slots lsA ls st h) (hB : ∀ (b t : Nat), pcs[b]? = some t → xchk o rt ini bytes pcs t (B b) = true) {off : Int} {b : Nat} (hg : xtg pcs pc off = some b) (hd : decode bytes pc = .ok (.ifnonnull off, 3)) (hc : xchk o rt ini bytes pcs (pc + 3) is = true) (hq : xnRun cf scr B vE hE n (xStep cf scr B (.ifnonnull (b : Int), 0) is ls st h)) : W p l e R s m args below meth c H locs cells slots Q (F0 m pc lsA (st.map (vR ρ))) := by
  simp only [xStep, Int.toNat_natCast] at hq
  obtain ⟨t, h1, h2⟩ := xtg_spec hg
  split at hq
  · exact lv_ifnonnullN X.1 X.2.1 hd (IH _ _ _ _ hq _ _ _ _ _ _ _ hc (S.stk (al_t S.2.2.1)))
  · exact lv_ifnonnull X.1 X.2.1 hd h2 (IH _ _ _ _ hq _ _ _ _ _ _ _ (hB b t h1) (S.stk (al_t S.2.2.1)))
  · exact hq.elim
theorem sx_tsw (X : xCtx p R s m meth c o nL ini bytes A D cA ρ0 h0 hE scr) (IH : xIH p l e R s m args below meth c Q o rt nL ini bytes pcs A D cA ρ0 h0 hE cf scr B vE n) {ρ : Nat → Nat} {H : Heap} {locs : List Loc} {cells slots pc : Nat} {lsA : Array Slot} {is : List XI} {ls : LL} {st : List Value} {h : Hp} (S : zSt s nL A D cA ρ0 h0 hE ρ H locs cells slots lsA ls st h) (hB : ∀ (b t : Nat), pcs[b]? = some t → xchk o rt ini bytes pcs t (B b) = true) {dflt lo hi : Int} {offs : Array Int} {len b : Nat} {bs : List Int} (hg : xtg pcs pc dflt = some b) (hgs : xtgs pcs pc offs.toList = some bs) (hd : decode bytes pc = .ok (.tableswitch dflt lo hi offs, len)) (hq : xnRun cf scr B vE hE n (xStep cf scr B (.tableswitch (b : Int) lo hi bs.toArray, 0) is ls st h)) : W p l e R s m args below meth c H locs cells slots Q (F0 m pc lsA (st.map (vR ρ))) := by
  simp only [xStep, Int.toNat_natCast] at hq
  obtain ⟨t, h1, h2⟩ := xtg_spec hg
  split at hq
  · split at hq
    · rename_i ho
      exact lv_tableOut X.1 X.2.1 hd ho h2 (IH _ _ _ _ hq _ _ _ _ _ _ _ (hB b t h1) (S.stk (al_t S.2.2.1)))
    · rename_i ho
      split at hq
      · rename_i b2 hb2
        obtain ⟨off, t2, e1, e2, e3⟩ := (xtgs_get hgs).2 _ b2 (by simpa using hb2)
        exact lv_tableIn X.1 X.2.1 hd (fun z => ho (Or.inl z)) (fun z => ho (Or.inr z)) (by simpa using e1) e3 (IH _ _ _ _ hq _ _ _ _ _ _ _ (hB _ t2 e2) (S.stk (al_t S.2.2.1)))
      · exact hq.elim
  · exact hq.elim
end
