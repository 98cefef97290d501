/-! Facts of the classes by number; the simulation's statement. -/
theorem xcl_at : ∀ {ci : Nat}, ci < 12 → xcl[ci]? = some (rn ci, Tx ci, Nx ci)
  | 0, _ => rfl | 1, _ => rfl | 2, _ => rfl | 3, _ => rfl | 4, _ => rfl | 5, _ => rfl | 6, _ => rfl | 7, _ => rfl | 8, _ => rfl | 9, _ => rfl | 10, _ => rfl | 11, _ => rfl
  | n + 12, h => by omega
theorem ws_good : ∀ ci, ci < 12 → (u_ws (rn ci) (Tx ci) (Nx ci)).all goodWord = true := by decide +kernel
theorem ws_in {ci : Nat} (h : ci < 12) : ∀ w ∈ u_ws (rn ci) (Tx ci) (Nx ci), w ∈ G := by
  intro w hw
  refine G_in ?_ (List.all_eq_true.mp (ws_good ci h) w hw)
  match ci, h with
  | 0, _ => exact inX0 w hw
  | 1, _ => exact inX1 w hw
  | 2, _ => exact inX2 w hw
  | 3, _ => exact inX3 w hw
  | 4, _ => exact inX4 w hw
  | 5, _ => exact inX5 w hw
  | 6, _ => exact inX6 w hw
  | 7, _ => exact inX7 w hw
  | 8, _ => exact inX8 w hw
  | 9, _ => exact inX9 w hw
  | 10, _ => exact inX10 w hw
  | 11, _ => exact inX11 w hw
  | n + 12, h => omega
theorem Tx_own : ∀ ci, ci < 12 → ∀ k, k < Nx ci → (Tx ci k).1 = rn ci := by decide +kernel
theorem Tx_ty : ∀ ci, ci < 12 → ∀ k, k < Nx ci → parseFieldDescriptor (Tx ci k).2.2.1 = some (tyx ci k) := by decide +kernel
theorem Tx_nm : ∀ ci, ci < 12 → ∀ a, a < Nx ci → ∀ b, b < Nx ci → a ≠ b → (Tx ci a).2.1 ≠ (Tx ci b).2.1 := by decide +kernel
theorem fs_at {ρ : Nat → Nat} {h : Hp} {a ci k : Nat} (hk : k < Nx ci) : ((List.range (Nx ci)).map (fldR ρ h a ci))[k]? = some (fldR ρ h a ci k) := by simp [hk]
/-- statics of the JDK's that the reached code reads -/
def xZst (A : Nat → Prop) (s : State) : Prop := va_Z "java/lang/String" "COMPACT_STRINGS" "Z" (.int 1) A s s.heap ∧ va_Zq "jdk/internal/util/Preconditions" "SIOOBE_FORMATTER" "Ljava/util/function/BiFunction;" A s s.heap ∧ va_Zq "java/lang/Throwable" "UNASSIGNED_STACK" "[Ljava/lang/StackTraceElement;" A s s.heap ∧ va_Zq "java/lang/Throwable" "SUPPRESSED_SENTINEL" "Ljava/util/List;" A s s.heap
/-- String constants, and the script -/
def xStr (ρ : Nat → Nat) (A : Nat → Prop) (s : State) : Prop := (∃ adV, vk_S 2 [1, 6] [[121], [108, 100, 109, 110, 119, 116]] (fun i => ρ (SCR + 1 + i)) adV A s s.heap) ∧ vk_R RX11 26 "y" (ρ (SCR + 1)) s ∧ vk_R RX11 32 "ldmnwt" (ρ (SCR + 2)) s ∧ vk_R RX10 135 "no such LAW or FACE" (ρ (SCR + 3)) s ∧ xZst A s
def xCtx (p : Program) (R : Room) (s : State) (m : MethodId) (meth : Method) (c : Code) (o nL : Nat) (ini : Bool) (bytes : ByteArray) (A : Nat → Prop) (D : va_G) (cA : Nat → ClassId) (ρ0 : Nat → Nat) (h0 hE : Hp) (scr : Option (Nat × (Nat → Int32))) : Prop :=
  p.tables.exec = Jvm.exec ∧ c.code = bytes ∧ c.maxLocals = nL ∧ s.vm.findClass (rn o) = some m.cls ∧ Inv s ∧ va_K D xcl (xty cA) s ∧ (∀ q, s.heap.size ≤ q → A q) ∧ (ini = true → meth.name = "<init>") ∧ (hC hE ≤ hC h0 + R.cells ∧ hS hE ≤ hS h0 + R.slots) ∧ xStr ρ0 A s ∧ (∀ q : Nat × (Nat → Int32), scr = some q → va_X (ρ0 SCR) q.1 q.2 s s.heap ∧ ρ0 SCR < s.heap.size ∧ ¬ A (ρ0 SCR))
/-- a state of the frame -/
def zSt (s : State) (nL : Nat) (A : Nat → Prop) (D : va_G) (cA : Nat → ClassId) (ρ0 : Nat → Nat) (h0 hE : Hp) (ρ : Nat → Nat) (H : Heap) (locs : List Loc) (cells slots : Nat) (lsA : Array Slot) (ls : LL) (st : List Value) (h : Hp) : Prop :=
  lvR lsA nL ρ ls ∧ WF h ∧ (∀ v ∈ st, vOK h v) ∧ (∀ i v, lget ls i = some v → vOK h v) ∧ va_P D xcl (wsR ρ cA h) H ∧ va_D A (wsR ρ cA h) ∧ va_S A s.heap H locs ∧ (agr h0 ρ0 ρ ∧ hZ h0 ≤ hZ h) ∧ hC h = hC h0 + cells ∧ hS h = hS h0 + slots
section
variable {s : State} {nL : Nat} {A : Nat → Prop} {D : va_G} {cA : Nat → ClassId} {ρ0 : Nat → Nat} {h0 hE : Hp} {ρ : Nat → Nat} {H : Heap} {locs : List Loc} {cells slots : Nat} {lsA : Array Slot} {ls : LL} {st : List Value} {h : Hp}
theorem zSt.stk (S : zSt s nL A D cA ρ0 h0 hE ρ H locs cells slots lsA ls st h) {st' : List Value} (hs : ∀ v ∈ st', vOK h v) : zSt s nL A D cA ρ0 h0 hE ρ H locs cells slots lsA ls st' h := ⟨S.1, S.2.1, hs, S.2.2.2⟩
theorem zSt.loc (S : zSt s nL A D cA ρ0 h0 hE ρ H locs cells slots lsA ls st h) {st' : List Value} (hs : ∀ v ∈ st', vOK h v) {lsB : Array Slot} {ls' : LL} (hl : lvR lsB nL ρ ls') (ho : ∀ i v, lget ls' i = some v → vOK h v) : zSt s nL A D cA ρ0 h0 hE ρ H locs cells slots lsB ls' st' h := ⟨hl, S.2.1, hs, ho, S.2.2.2.2⟩
/-- after a write within the world -/
theorem zSt.wr (S : zSt s nL A D cA ρ0 h0 hE ρ H locs cells slots lsA ls st h) {st' : List Value} {h' : Hp} {H1 : Heap} {locs1 : List Loc} {ws1 : va_W} (hs : ∀ v ∈ st', v ∈ st) (hw : WF h') (hz : hZ h' = hZ h) (hc : hC h' = hC h) (hsl : hS h' = hS h) (he : wsR ρ cA h' = ws1) (hP : va_P D xcl ws1 H1) (hD : va_D A ws1) (hS : va_S A s.heap H1 locs1) : zSt s nL A D cA ρ0 h0 hE ρ H1 locs1 cells slots lsA ls st' h' := by
  subst he
  exact ⟨S.1, hw, fun v hv => (S.2.2.1 v (hs v hv)).mono (Nat.le_of_eq hz.symm), fun i v hv => (S.2.2.2.1 i v hv).mono (Nat.le_of_eq hz.symm), hP, hD, hS, ⟨S.2.2.2.2.2.2.2.1.1, by rw [hz]; exact S.2.2.2.2.2.2.2.1.2⟩, by rw [hc]; exact S.2.2.2.2.2.2.2.2.1, by rw [hsl]; exact S.2.2.2.2.2.2.2.2.2⟩
/-- after a new cell -/
theorem zSt.mk (S : zSt s nL A D cA ρ0 h0 hE ρ H locs cells slots lsA ls st h) {st' : List Value} {kd n sl q : Nat} {H1 : Heap} {e1 : va_E} (hlt : hZ h < SCR) (hs : ∀ v ∈ st', v ∈ st) (he : cellR (va_up ρ (hZ h) q) cA (hNew h kd n sl) (hZ h) = e1) (hP : va_P D xcl (wsR ρ cA h ++ [(q, e1)]) H1) (hD : va_D A (wsR ρ cA h ++ [(q, e1)])) (hSs : va_S A s.heap H1 locs) : zSt s nL A D cA ρ0 h0 hE (va_up ρ (hZ h) q) H1 locs (cells + 1) (slots + sl) lsA ls (.ref (hZ h) :: st') (hNew h kd n sl) := by
  subst he
  have hg : agr h ρ (va_up ρ (hZ h) q) := agr_new hlt
  have hz : hZ h ≤ hZ (hNew h kd n sl) := Nat.le_succ _
  refine ⟨S.1.moved hg S.2.2.2.1, S.2.1.new hlt, fun v hv => ?_, fun i v hv => (S.2.2.2.1 i v hv).mono hz, ?_, ?_, hSs, ⟨fun a ha => ?_, Nat.le_trans S.2.2.2.2.2.2.2.1.2 hz⟩, ?_, ?_⟩
  · rcases List.mem_cons.mp hv with rfl | hv
    · exact vOK_ref (Or.inl (Nat.lt_succ_self _))
    · exact (S.2.2.1 v (hs v hv)).mono hz
  · rw [ws_new S.2.1 hlt]; exact hP
  · rw [ws_new S.2.1 hlt]; exact hD
  · rw [hg a (ha.elim (fun z => Or.inl (Nat.lt_of_lt_of_le z S.2.2.2.2.2.2.2.1.2)) Or.inr)]
    exact S.2.2.2.2.2.2.2.1.1 a ha
  · show hC h + 1 = _
    rw [S.2.2.2.2.2.2.2.2.1]; omega
  · show hS h + sl = _
    rw [S.2.2.2.2.2.2.2.2.2]; omega
end
/-! the stack of a state that came by new cells: the references' addresses move with ρ -/
theorem xtg_spec {pcs : List Nat} {pc b : Nat} {off : Int} (h : xtg pcs pc off = some b) : ∃ t : Nat, pcs[b]? = some t ∧ (pc : Int) + off = (t : Int) := by
  unfold xtg at h
  rw [List.findIdx?_eq_some_iff_getElem] at h
  obtain ⟨hb, h1, -⟩ := h
  exact ⟨pcs[b], List.getElem?_eq_getElem hb, by simpa using h1⟩
theorem xln_eq {len n : Nat} {x y : XI} (h : xln len n x = some y) : len = n ∧ x = y := by
  unfold xln at h
  split at h
  · rename_i hl
    exact ⟨hl, Option.some.inj h⟩
  · cases h
theorem xtgs_get {pcs : List Nat} {pc : Nat} : ∀ {offs bs : List Int}, xtgs pcs pc offs = some bs → offs.length = bs.length ∧ ∀ (i : Nat) (b : Int), bs[i]? = some b → ∃ (off : Int) (t : Nat), offs[i]? = some off ∧ pcs[b.toNat]? = some t ∧ (pc : Int) + off = (t : Int)
  | [], bs, h => by
    simp only [xtgs, Option.some.injEq] at h
    subst h
    exact ⟨rfl, fun i b hb => by simp at hb⟩
  | a :: r, bs, h => by
    simp only [xtgs] at h
    split at h
    · rename_i b s h1 h2
      cases h
      obtain ⟨l1, l2⟩ := xtgs_get h2
      refine ⟨by simp [l1], fun i b' hb => ?_⟩
      cases i with
      | zero =>
        simp only [List.getElem?_cons_zero, Option.some.injEq] at hb
        subst hb
        obtain ⟨t, e1, e2⟩ := xtg_spec h1
        exact ⟨a, t, rfl, by simpa using e1, e2⟩
      | succ i =>
        obtain ⟨off, t, e1, e2, e3⟩ := l2 i b' (by simpa using hb)
        exact ⟨off, t, by simpa using e1, e2, e3⟩
    · cases h
