/-! Calls: what a method's contract says, and a call by it. -/
def xPre (D : va_G) (cA : Nat → ClassId) (ρ : Nat → Nat) (h : Hp) (sz : Nat) : State → Prop := fun U =>
  U.heap.size = sz ∧ va_P D xcl (wsR ρ cA h) U.heap ∧ va_K D xcl (xty cA) U ∧ va_D (fun _ => True) (wsR ρ cA h) ∧ Inv U ∧ va_AO "DiceLaw$Text" U ∧ xStr ρ (va_A (wsR ρ cA h) sz) U
def vKind (v : Option Value) : Prop := ∀ x, v = some x → (∃ i, x = .int i) ∨ ∃ j, x = .long j
def xPost (D : va_G) (cA : Nat → ClassId) (ρ : Nat → Nat) (h : Hp) (sz : Nat) (v : Option Value) (h1 : Hp) : Array Value → State → Outcome → State → Prop := fun _ st oc t =>
  (∃ ρ' : Nat → Nat, oc = .returned v ∧ vKind v ∧ agr h ρ ρ' ∧ WF h1 ∧ va_P D xcl (wsR ρ' cA h1) t.heap ∧ va_D (va_A (wsR ρ cA h) sz) (wsR ρ' cA h1)) ∧ va_F (va_A (wsR ρ cA h) sz) st t
def xRoom (d : Nat) (h h1 : Hp) : Room := { frames := d + 1, cells := hC h1 - hC h, slots := hS h1 - hS h, locals := 50 * (d + 1) }
/-- the word of a method's own code -/
def wCode (k : Nat) : Jvm.Cond := .code (eY (mOf k)) (eB (mOf k)) (eL (mOf k)) (eRet (mOf k))
def xCon (l : Launch) (d k : Nat) (vs : List Value) (h : Hp) (v : Option Value) (h1 : Hp) : Prop :=
  WF h → (∀ x ∈ vs, vOK h x) → ∀ (D : va_G) (cA : Nat → ClassId) (ρ : Nat → Nat) (sz : Nat),
    Met l (eY (mOf k)) [wCode k] (xRoom d h h1) (va_Pc (vs.map (vR ρ)) (xPre D cA ρ h sz)) (xPost D cA ρ h sz v h1) (hC h1 - hC h) (hS h1 - hS h) (va_A (wsR ρ cA h) sz)
theorem xPre.calling {D : va_G} {cA : Nat → ClassId} {ρ : Nat → Nat} {h : Hp} {sz : Nat} {av : List Value} : FrameBlind (va_Pc av (xPre D cA ρ h sz)) := by
  intro a U g mk ⟨e, h1, h2, h3, h4, h5, h6, ⟨⟨adV, z1⟩, z2, z3, z4, z5, z6, z7, z8⟩⟩
  refine ⟨e, h1, h2, va_K.moved (u := U) (U := U.calling g mk a) (Vm.Alike.refl U.vm) h3, h4, Inv.same (u := U) rfl h5, va_AO.moved (u := U) (Vm.Alike.refl U.vm) h6, ⟨⟨adV, ?_⟩, vk_R.same (u := U) rfl z2, vk_R.same (u := U) rfl z3, vk_R.same (u := U) rfl z4, va_Z.moved (u := U) (Vm.Alike.refl U.vm) z5, va_Zq.moved (u := U) (Vm.Alike.refl U.vm) z6, va_Zq.moved (u := U) (Vm.Alike.refl U.vm) z7, va_Zq.moved (u := U) (Vm.Alike.refl U.vm) z8⟩⟩
  exact vk_S.moved (u := U) (Vm.Alike.refl U.vm) z1
theorem catS_map (ρ : Nat → Nat) : ∀ (vs : List Value), ((vs.map (vR ρ)).map fun v => v.category).sum = catS vs
  | [] => rfl
  | v :: vs => by
    simp only [List.map_cons, List.sum_cons, catS, vR_cat]
    rw [catS_map ρ vs]
theorem xStr.down {A A' : Nat → Prop} {s U : State} {ρ0 ρ : Nat → Nat} {H : Heap} {locs : List Loc} (h : xStr ρ0 A s) (hg : ∀ a, SCR ≤ a → ρ a = ρ0 a) (hU : U.heap = H) (hW : s.WarmedH U.vm) (hS : va_S A s.heap H locs) (hA : ∀ q, A' q → A q) : xStr ρ A' U := by
  obtain ⟨⟨adV, z1⟩, z2, z3, z4, z5, z6, z7, z8⟩ := h
  have kp : ∀ a : Nat, a < s.heap.size → ¬ A a → H[a]? = s.heap[a]? := fun a h1 h2 => hS.2.1 a h1 h2
  have e : (fun i => ρ (SCR + 1 + i)) = (fun i => ρ0 (SCR + 1 + i)) := funext fun i => hg _ (by omega)
  refine ⟨⟨adV, ?_⟩, ?_, ?_, ?_, ?_, ?_, ?_, ?_⟩
  · rw [e, hU]
    exact ((z1.kept (fun a h1 h2 => hS.2.1 a h1 h2)).moved hW.alike).narrow hA
  · rw [hg _ (by omega)]; exact z2.warm hW
  · rw [hg _ (by omega)]; exact z3.warm hW
  · rw [hg _ (by omega)]; exact z4.warm hW
  · rw [hU]; exact ((z5.kept kp).moved hW.alike).narrow hA
  · rw [hU]; exact ((z6.kept kp).moved hW.alike).narrow hA
  · rw [hU]; exact ((z7.kept kp).moved hW.alike).narrow hA
  · rw [hU]; exact ((z8.kept kp).moved hW.alike).narrow hA
section
variable {p : Program} {l : Launch} {e : Env} {R : Room} {s : State} {m : MethodId} {args : Array Value} {below : List Frame} {meth : Method} {c : Code} {Q : State → Prop}
theorem my_call {H : Heap} {locs : List Loc} {cells slots mc ms pc : Nat} {ls : Array Slot} {rest st0 : List Value} {Qa : State → Outcome → State → Prop} {A0 A1 free : Nat → Prop} {H0 : Heap} (hr : va_Run p l e R s m args below meth c H locs cells slots mc ms (F0 m pc ls st0) rest Qa free) (hS : va_S A0 H0 H locs) (hA : ∀ q, q < H.size → A1 q → A0 q) (hf : ∀ q, free q → A0 q) (hQ : ∀ st t v, Qa st (.returned v) t → va_F A1 st t)
    (kk : ∀ (v : Option Value) (st t : State) (H1 : Heap) (locs1 : List Loc), st.heap = H → t.heap = H1 → Qa st (.returned v) t → va_S A0 H0 H1 locs1 → W p l e R s m args below meth c H1 locs1 (cells + mc) (slots + ms) Q (F0 m (pc + 3) ls (v.toList ++ rest))) : W p l e R s m args below meth c H locs cells slots Q (F0 m pc ls st0) := by
  intro T hT X
  obtain ⟨v, st₀, t, T', L, h0, X', hL, e1, e2, hq, st⟩ := hr T hT X
  obtain ⟨hz, hk⟩ := hQ _ _ _ hq
  rw [h0] at hz hk
  obtain ⟨t2, a1, b1⟩ := kk v st₀ t T'.heap (locs ++ L) h0 e1.symm hq
    ⟨Nat.le_trans hS.1 (by rw [e1]; exact hz), fun q h1 h2 => by rw [e1, hk q (Nat.lt_of_lt_of_le h1 hS.1) (fun z => h2 (hA q (Nat.lt_of_lt_of_le h1 hS.1) z))]; exact hS.2.1 q h1 h2, fun q hq => by
      rcases List.mem_append.mp hq with h | h
      · exact hS.2.2 q h
      · exact hf _ (hL q h)⟩ T' rfl X'
  exact ⟨t2, st t2 a1, b1⟩
end


section
variable {p : Program} {l : Launch} {e : Env} {R : Room} {s : State} {m : MethodId} {args : Array Value} {below : List Frame} {meth : Method} {c : Code} {Q : State → Prop} {o rt nL : Nat} {ini : Bool} {bytes : ByteArray} {pcs : List Nat} {A : Nat → Prop} {D : va_G} {cA : Nat → ClassId} {ρ0 : Nat → Nat} {h0 hE : Hp} {scr : Option (Nat × (Nat → Int32))} {cf : Nat → List Value → Hp → Option XR} {B : Nat → List XI} {vE : Option Value} {n : Nat}

/-- behind a call -/
theorem call_next (IH : xIH p l e R s m args below meth c Q o rt nL ini bytes pcs A D cA ρ0 h0 hE cf scr B vE n) {ρ : Nat → Nat} {H : Heap} {locs : List Loc} {cells slots pc : Nat} {lsA : Array Slot} {is : List XI} {ls : LL} {st st1 : List Value} {h h1 : Hp} {v : Option Value} (S : zSt s nL A D cA ρ0 h0 hE ρ H locs cells slots lsA ls st h) (hm : le3 h h1) (hs : ∀ x ∈ st1, x ∈ st) (hA1 : ∀ q, va_A (wsR ρ cA h) H.size q → A q) (hc : xchk o rt ini bytes pcs (pc + 3) is = true) (hq : xRun cf scr B n is ls (v.toList ++ st1) h1 = some (vE, hE))
    {vv : Option Value} {st0 t : State} {H1 : Heap} {locs1 : List Loc} {a : Array Value} (ht : t.heap = H1) (hp : xPost D cA ρ h H.size v h1 a st0 (.returned vv) t) (hS1 : va_S A s.heap H1 locs1) : W p l e R s m args below meth c H1 locs1 (cells + (hC h1 - hC h)) (slots + (hS h1 - hS h)) Q (F0 m (pc + 3) lsA (vv.toList ++ st1.map (vR ρ))) := by
  obtain ⟨⟨ρ', e1, hk, hg, hw1, hP1, hD1⟩, -⟩ := hp
  cases e1
  rw [ht] at hP1
  have hv : ∀ x ∈ v.toList, vOK h1 x ∧ vR ρ' x = x := by
    intro x hx
    have hx' : v = some x := by simpa using hx
    rcases hk x hx' with ⟨i, rfl⟩ | ⟨i, rfl⟩
    · exact ⟨vOK_int _, rfl⟩
    · exact ⟨vOK_long _, rfl⟩
  have K := IH _ _ _ _ hq ρ' H1 locs1 (cells + (hC h1 - hC h)) (slots + (hS h1 - hS h)) (pc + 3) lsA hc
    ⟨S.1.moved hg S.2.2.2.1, hw1, fun x hx => by
      rcases List.mem_append.mp hx with q | q
      · exact (hv x q).1
      · exact (S.2.2.1 x (hs x q)).mono hm.2.2,
     fun i x hx => (S.2.2.2.1 i x hx).mono hm.2.2, hP1, hD1.weaken (fun _ q _ z => hA1 q.1 z), hS1,
     ⟨fun q hq => by rw [hg q (hq.elim (fun z => Or.inl (Nat.lt_of_lt_of_le z S.2.2.2.2.2.2.2.1.2)) Or.inr)]; exact S.2.2.2.2.2.2.2.1.1 q hq, Nat.le_trans S.2.2.2.2.2.2.2.1.2 hm.2.2⟩,
     by have := S.2.2.2.2.2.2.2.2.1; have := hm.1; omega, by have := S.2.2.2.2.2.2.2.2.2; have := hm.2.1; omega⟩
  refine W.eq ?_ K
  rw [List.map_append, vRs_agr hg (fun x hx => S.2.2.1 x (hs x hx)), show v.toList.map (vR ρ') = v.toList from by
    conv => rhs; rw [← List.map_id v.toList]
    exact List.map_congr_left fun x hx => (hv x hx).2]
/-- what a call asks of the callee's start -/
theorem pre_of (X : xCtx p R s m meth c o nL ini bytes A D cA ρ0 h0 hE scr) (hAO : va_AO "DiceLaw$Text" s) {ρ : Nat → Nat} {H : Heap} {locs : List Loc} {cells slots : Nat} {lsA : Array Slot} {ls : LL} {st : List Value} {h : Hp} (S : zSt s nL A D cA ρ0 h0 hE ρ H locs cells slots lsA ls st h) (hA1 : ∀ q, va_A (wsR ρ cA h) H.size q → A q) {av : List Value} : ∀ U : State, U.heap = H → s.WarmedH U.vm → va_Pc av (xPre D cA ρ h H.size) av.toArray U := by
  intro U hU hW
  exact ⟨rfl, by rw [hU], by rw [hU]; exact S.2.2.2.2.1, va_K.moved hW.alike X.2.2.2.2.2.1, S.2.2.2.2.2.1.weaken (fun _ _ _ _ => trivial), Inv.warm hW X.2.2.2.2.1, va_AO.moved hW.alike hAO, X.2.2.2.2.2.2.2.2.2.1.down (fun a ha => S.2.2.2.2.2.2.2.1.1 a (Or.inr ha)) hU hW S.2.2.2.2.2.2.1 hA1⟩
theorem free_of (X : xCtx p R s m meth c o nL ini bytes A D cA ρ0 h0 hE scr) {ρ : Nat → Nat} {H : Heap} {locs : List Loc} {cells slots : Nat} {lsA : Array Slot} {ls : LL} {st : List Value} {h : Hp} (S : zSt s nL A D cA ρ0 h0 hE ρ H locs cells slots lsA ls st h) : ∀ q, va_A (wsR ρ cA h) H.size q → A q := by
  intro q hq
  rcases hq with ⟨k, e9, hk⟩ | hq
  · exact S.2.2.2.2.2.1.2 k (q, e9) hk
  · exact X.2.2.2.2.2.2.1 q (Nat.le_trans S.2.2.2.2.2.2.1.1 hq)
theorem gcode {k : Nat} (h3 : eSt (mOf k) ≠ 3) (hl : eY (mOf k) ≠ yL_law) : GoodIn G [wCode k] ∧ Jvm.Cond.initialized (eY (mOf k)).cls ∈ G := by
  have hw := (mOf_words k).resolve_left hl
  have h1 : wCode k ∈ wE (mOf k) := by unfold wE; rw [if_neg h3]; exact List.mem_cons_self
  have h2 : Jvm.Cond.initialized (eY (mOf k)).cls ∈ wE (mOf k) := by unfold wE; rw [if_neg h3]; exact List.mem_cons_of_mem _ List.mem_cons_self
  refine ⟨fun w hw2 => ?_, G_in (hw.1 _ h2).1 (hw.1 _ h2).2⟩
  rw [List.mem_singleton.mp hw2]
  exact ⟨G_in (hw.1 _ h1).1 (hw.1 _ h1).2, good_of_word (hw.1 _ h1).2⟩
theorem gfact {k : Nat} (h3 : eSt (mOf k) ≠ 3) (hl : eY (mOf k) ≠ yL_law) : (eY (mOf k)).cls = rn (eOwn (mOf k)) ∧ (eSt (mOf k) = 2 → (eY (mOf k)).name = "<init>") ∧ (eSt (mOf k) ≠ 2 → (eY (mOf k)).name ≠ "<init>") ∧ (parseMethodDescriptor (eY (mOf k)).desc).map (fun d => d.parameters.length + (if eSt (mOf k) = 0 then 0 else 1)) = some (eN (mOf k)) ∧ eL (mOf k) ≤ 30 ∧ eOwn (mOf k) < 15 ∧ (Jvm.plainName (eY (mOf k)).cls = true ∨ eOwn (mOf k) = 14) ∧ (eY (mOf k)).cls ≠ "java/lang/invoke/MethodHandle" ∧ (eY (mOf k)).cls ≠ "java/lang/invoke/VarHandle" :=
  ((mOf_words k).resolve_left hl).2.resolve_left h3
theorem gstat {k : Nat} (h0 : eSt (mOf k) = 0) (hl : eY (mOf k) ≠ yL_law) : Jvm.Cond.static (eY (mOf k)) ∈ lw_tbl ∧ goodWord (Jvm.Cond.static (eY (mOf k))) = true := by
  have hw := (mOf_words k).resolve_left hl
  have h1 : Jvm.Cond.static (eY (mOf k)) ∈ wE (mOf k) := by unfold wE; rw [if_neg (by omega), if_pos h0]; simp
  exact hw.1 _ h1
theorem ginst {k : Nat} (h0 : eSt (mOf k) = 1) (hl : eY (mOf k) ≠ yL_law) : (Jvm.Cond.instanceMethod (eY (mOf k)) ∈ lw_tbl ∧ goodWord (Jvm.Cond.instanceMethod (eY (mOf k))) = true) ∧ (Jvm.Cond.selects (eY (mOf k)).cls (eY (mOf k)) (eY (mOf k)) ∈ lw_tbl ∧ goodWord (Jvm.Cond.selects (eY (mOf k)).cls (eY (mOf k)) (eY (mOf k))) = true) := by
  have hw := (mOf_words k).resolve_left hl
  have h1 : Jvm.Cond.instanceMethod (eY (mOf k)) ∈ wE (mOf k) := by unfold wE; rw [if_neg (by omega), if_neg (by omega), if_pos h0]; simp
  have h2 : Jvm.Cond.selects (eY (mOf k)).cls (eY (mOf k)) (eY (mOf k)) ∈ wE (mOf k) := by unfold wE; rw [if_neg (by omega), if_neg (by omega), if_pos h0]; simp
  exact ⟨hw.1 _ h1, hw.1 _ h2⟩
theorem ginit {k : Nat} (h0 : eSt (mOf k) = 2) (hl : eY (mOf k) ≠ yL_law) : Jvm.Cond.instanceMethod (eY (mOf k)) ∈ lw_tbl ∧ goodWord (Jvm.Cond.instanceMethod (eY (mOf k))) = true := by
  have hw := (mOf_words k).resolve_left hl
  have h1 : Jvm.Cond.instanceMethod (eY (mOf k)) ∈ wE (mOf k) := by unfold wE; rw [if_neg (by omega), if_neg (by omega), if_neg (by omega)]; simp
  exact hw.1 _ h1
set_option maxRecDepth 100000 in
theorem init_void : mt.all (fun e => decide ((eSt e = 2 → eT e = 0) ∧ (eSt e = 1 ∨ eSt e = 2 → eOwn e < 12))) = true := by decide +kernel
set_option maxRecDepth 100000 in
theorem wObj_ok : Jvm.Cond.instanceMethod objectInit ∈ tables_1 ∧ Jvm.Cond.code objectInit ⟨#[0xb1]⟩ 1 none ∈ tables_1 := by decide +kernel
theorem link_of {o idx k nest : Nat} {s : State} (hI : Inv s) (hx : xlu xMt o idx = some (k, nest)) (hk : k ≠ 999) (args : Array Value) : (nest = 0 → (Jvm.Cond.methodLink (rn o) idx (eY (mOf k))).before args s = true) ∧ (nest ≠ 0 → va_Nw (.methodLinkNest (rn o) idx (eY (mOf k)) "DiceLaw") s) := by
  have hw := wM_in hx
  refine ⟨fun hn => ?_, fun hn => ?_⟩
  · have hl : Jvm.Cond.methodLink (rn o) idx (eY (mOf k)) ∈ lw_tbl := by simpa [wM, hn, hk] using hw
    exact Inv.use hI hl (by first | rfl | simp [goodWord, Jvm.Cond.onTables, Jvm.Cond.keeps, Jvm.Cond.steady]) args
  · have hl : Jvm.Cond.methodLinkNest (rn o) idx (eY (mOf k)) "DiceLaw" ∈ lw_tbl := by simpa [wM, hn] using hw
    exact Inv.nw hI hl (by first | rfl | simp [okTag])
def xcfOK (l : Launch) (R : Room) (cf : Nat → List Value → Hp → Option XR) : Prop := ∃ d, d + 2 ≤ R.frames ∧ 49 + 50 * (d + 1) ≤ R.locals ∧ ∀ (k : Nat) (vs : List Value) (h : Hp) (v : Option Value) (h1 : Hp), cf k vs h = some (v, h1) → (k = 277 ∨ k = 278 ∨ k = 279 → pMath k vs h = some (v, h1)) ∧ (¬ (k = 277 ∨ k = 278 ∨ k = 279 ∨ k = 274) → eY (mOf k) ≠ yL_law ∧ xCon l d k vs h v h1)
theorem st_split {ρ : Nat → Nat} (st : List Value) (n : Nat) : st.map (vR ρ) = (((st.take n).reverse).map (vR ρ)).reverse ++ (st.drop n).map (vR ρ) := by
  rw [← List.map_reverse, List.reverse_reverse, ← List.map_append, List.take_append_drop]
theorem par_of {k n : Nat} {w : Nat} (h : (parseMethodDescriptor (eY (mOf k)).desc).map (fun d => d.parameters.length + w) = some (n + w)) : (parseMethodDescriptor (eY (mOf k)).desc).map (fun d => d.parameters.length) = some n := by
  cases hd : parseMethodDescriptor (eY (mOf k)).desc with
  | none => rw [hd] at h; cases h
  | some d =>
    rw [hd] at h
    simp only [Option.map_some, Option.some.injEq] at h ⊢
    omega
def StatOK (k : Nat) : Prop := GoodIn G [wCode k] ∧ (Jvm.Cond.initialized (eY (mOf k)).cls ∈ lw_tbl ∧ goodWord (Jvm.Cond.initialized (eY (mOf k)).cls) = true) ∧ (Jvm.Cond.static (eY (mOf k)) ∈ lw_tbl ∧ goodWord (Jvm.Cond.static (eY (mOf k))) = true) ∧ ((eY (mOf k)).cls ≠ "java/lang/invoke/MethodHandle" ∧ (eY (mOf k)).cls ≠ "java/lang/invoke/VarHandle" ∧ (parseMethodDescriptor (eY (mOf k)).desc).map (fun d => d.parameters.length) = some (eN (mOf k))) ∧ eL (mOf k) ≤ 30
theorem statOK {k : Nat} (h0 : eSt (mOf k) = 0) (hl : eY (mOf k) ≠ yL_law) : StatOK k := by
  have h3 : eSt (mOf k) ≠ 3 := by omega
  obtain ⟨f1, f2, f3, f4, f5, f6, f7, f8, f9⟩ := gfact h3 hl
  obtain ⟨g1, g2⟩ := gcode h3 hl
  refine ⟨g1, List.mem_filter.mp g2, gstat h0 hl, ⟨f8, f9, ?_⟩, f5⟩
  rw [if_pos h0] at f4
  exact par_of (w := 0) f4
theorem wR_ok (k : Nat) : (eSt (mOf k) = 2 → eT (mOf k) = 0) ∧ (eSt (mOf k) = 1 ∨ eSt (mOf k) = 2 → eOwn (mOf k) < 12) := by
  have h1 := List.all_eq_true.mp init_void _ (mOf_mem k)
  exact of_decide_eq_true h1
theorem sx_calls (X : xCtx p R s m meth c o nL ini bytes A D cA ρ0 h0 hE scr) (IH : xIH p l e R s m args below meth c Q o rt nL ini bytes pcs A D cA ρ0 h0 hE cf scr B vE n) {ρ : Nat → Nat} {H : Heap} {locs : List Loc} {cells slots pc : Nat} {lsA : Array Slot} {is : List XI} {ls : LL} {st : List Value} {h : Hp} (S : zSt s nL A D cA ρ0 h0 hE ρ H locs cells slots lsA ls st h) (hAO : va_AO "DiceLaw$Text" s) (hcf : cfMono cf) (hcs : xcfOK l R cf) {idx k nest : Nat} (hx : xlu xMt o idx = some (k, nest)) (hk9 : k ≠ 999) (hst : eSt (mOf k) = 0 ∨ (k = 83 ∧ StatOK 83)) (hnk : ¬ (k = 277 ∨ k = 278 ∨ k = 279 ∨ k = 274)) (hd : decode bytes pc = .ok (.invokestatic idx, 3)) (hc : xchk o rt ini bytes pcs (pc + 3) is = true) (hq : xnRun cf scr B vE hE n (xStep cf scr B (.invokestatic k, eN (mOf k)) is ls st h)) : W p l e R s m args below meth c H locs cells slots Q (F0 m pc lsA (st.map (vR ρ))) := by
  simp only [xStep] at hq
  split at hq
  · rename_i hcs0
    split at hq
    · rename_i v h1 hcall
      obtain ⟨d, hd1, hd2, hcc⟩ := hcs
      obtain ⟨hl, M⟩ := (hcc _ _ _ _ _ hcall).2 hnk
      have hOK : ∀ x ∈ (st.take (eN (mOf k))).reverse, vOK h x := fun x hx => S.2.2.1 x (List.mem_of_mem_take (List.mem_reverse.mp hx))
      have M := M S.2.1 hOK D cA ρ H.size
      have hq : xRun cf scr B n is ls (v.toList ++ st.drop (eN (mOf k))) h1 = some (vE, hE) := hq
      have hm := hcf _ _ _ _ _ hcall
      have hA1 := free_of X S
      have hroom := room_of X S (xRun_mono hcf _ _ _ _ _ _ _ hq) (a := hC h1 - hC h) (b := hS h1 - hS h) (by have := hm.1; omega) (by have := hm.2.1; omega)
      have hg : StatOK k := by
        rcases hst with q | ⟨q, q2⟩
        · exact statOK q hl
        · rw [q]; exact q2
      obtain ⟨g1, g2, g3, g4, g5⟩ := hg
      have hlen : (((st.take (eN (mOf k))).reverse).map (vR ρ)).length = eN (mOf k) := by have := hcs0.2; simp; omega
      have hR : (xRoom d h h1).frames + 1 ≤ R.frames ∧ 8 + (eL (mOf k) + 11) + (xRoom d h h1).locals ≤ R.locals := ⟨hd1, by show 8 + (eL (mOf k) + 11) + 50 * (d + 1) ≤ _; omega⟩
      have hW8 : 2 * (F0 m pc lsA (st.map (vR ρ))).monitorRoom + (((st.drop (eN (mOf k))).map (vR ρ)).map fun v => v.category).sum ≤ 8 := lv_room (by rw [catS_map]; exact hcs0.1)
      have hlk := link_of (args := args) X.2.2.2.2.1 hx hk9
      have kk := fun (vv : Option Value) (s0 t : State) (H1 : Heap) (locs1 : List Loc) (_ : s0.heap = H) (ht : t.heap = H1) (hp : xPost D cA ρ h H.size v h1 (((st.take (eN (mOf k))).reverse).map (vR ρ)).toArray s0 (.returned vv) t) (hS1 : va_S A s.heap H1 locs1) => call_next IH S hm (st1 := st.drop (eN (mOf k))) (fun x hx => List.mem_of_mem_drop hx) hA1 hc hq ht hp hS1
      by_cases hn : nest = 0
      · exact my_call (va_runS ⟨X.1, X.2.1, X.2.2.1, X.2.2.2.1, G_hts X.2.2.2.2.1 args⟩ M ⟨callB_of (eN (mOf k)) (G_hts X.2.2.2.2.1 args) g1 rfl rfl rfl (gw X g2.1 g2.2) (hlk.1 hn) g4 hR, gw X g3.1 g3.2⟩ ⟨xPre.calling, pre_of X hAO S hA1⟩ rfl hlen S.1.1 (st_split st _) hW8 hd hroom) S.2.2.2.2.2.2.1 (fun q _ h => hA1 q h) hA1 (fun _ _ _ hp => hp.2) kk
      · exact my_call (va_runSN ⟨X.1, X.2.1, X.2.2.1, X.2.2.2.1, G_hts X.2.2.2.2.1 args⟩ M ⟨va_cnB (eN (mOf k)) (G_hts X.2.2.2.2.1 args) g1 rfl rfl rfl (hlk.2 hn) (gw X g2.1 g2.2) g4 hR, gw X g3.1 g3.2, trivial⟩ ⟨xPre.calling, pre_of X hAO S hA1⟩ rfl hlen S.1.1 (st_split st _) hW8 hd hroom) S.2.2.2.2.2.2.1 (fun q _ h => hA1 q h) hA1 (fun _ _ _ hp => hp.2) kk
    · exact hq.elim
  · exact hq.elim
theorem sx_callv (X : xCtx p R s m meth c o nL ini bytes A D cA ρ0 h0 hE scr) (IH : xIH p l e R s m args below meth c Q o rt nL ini bytes pcs A D cA ρ0 h0 hE cf scr B vE n) {ρ : Nat → Nat} {H : Heap} {locs : List Loc} {cells slots pc : Nat} {lsA : Array Slot} {is : List XI} {ls : LL} {st : List Value} {h : Hp} (S : zSt s nL A D cA ρ0 h0 hE ρ H locs cells slots lsA ls st h) (hAO : va_AO "DiceLaw$Text" s) (hcf : cfMono cf) (hcs : xcfOK l R cf) {idx k nest : Nat} (hx : xlu xMt o idx = some (k, nest)) (hk9 : k ≠ 999) (hst : eSt (mOf k) = 1) (hd : decode bytes pc = .ok (.invokevirtual idx, 3)) (hc : xchk o rt ini bytes pcs (pc + 3) is = true) (hq : xnRun cf scr B vE hE n (xStep cf scr B (.invokeinterface k (eN (mOf k)), eOwn (mOf k)) is ls st h)) : W p l e R s m args below meth c H locs cells slots Q (F0 m pc lsA (st.map (vR ρ))) := by
  simp only [xStep] at hq
  split at hq
  · rename_i hcs0
    split at hq
    · rename_i a vs hargs
      split at hq
      · rename_i hka
        split at hq
        · rename_i v h1 hcall
          obtain ⟨d, hd1, hd2, hcc⟩ := hcs
          have hnk : ¬ (k = 277 ∨ k = 278 ∨ k = 279 ∨ k = 274) := by
            rintro (rfl | rfl | rfl | rfl) <;> exact absurd hst (by decide)
          obtain ⟨hl, M⟩ := (hcc _ _ _ _ _ hcall).2 hnk
          have hOK : ∀ x ∈ (Value.ref a :: vs), vOK h x := fun x hx => by
            rw [← hargs] at hx
            exact S.2.2.1 x (List.mem_of_mem_take (List.mem_reverse.mp hx))
          have M := M S.2.1 hOK D cA ρ H.size
          have hq : xRun cf scr B n is ls (v.toList ++ st.drop (eN (mOf k))) h1 = some (vE, hE) := hq
          have hm := hcf _ _ _ _ _ hcall
          have hA1 := free_of X S
          have hroom := room_of X S (xRun_mono hcf _ _ _ _ _ _ _ hq) (a := hC h1 - hC h) (b := hS h1 - hS h) (by have := hm.1; omega) (by have := hm.2.1; omega)
          have h3 : eSt (mOf k) ≠ 3 := by omega
          obtain ⟨f1, f2, f3, f4, f5, f6, f7, f8, f9⟩ := gfact h3 hl
          obtain ⟨g1, g2⟩ := gcode h3 hl
          have g2 := List.mem_filter.mp g2
          have hci : eOwn (mOf k) < 12 := (wR_ok k).2 (by omega)
          have hl0 : (st.take (eN (mOf k))).length = vs.length + 1 := by rw [← List.length_reverse, hargs]; rfl
          have hl1 : eN (mOf k) = vs.length + 1 := by have := hcs0.2; simp at hl0; omega
          have hlen : (vs.map (vR ρ)).length = vs.length := by simp
          have hpar : (parseMethodDescriptor (eY (mOf k)).desc).map (fun d => d.parameters.length) = some vs.length := by
            rw [if_neg (by omega)] at f4
            exact par_of (w := 1) (by rw [f4, hl1])
          have g4 : (eY (mOf k)).cls ≠ "java/lang/invoke/MethodHandle" ∧ (eY (mOf k)).cls ≠ "java/lang/invoke/VarHandle" ∧ (parseMethodDescriptor (eY (mOf k)).desc).map (fun d => d.parameters.length) = some vs.length := ⟨f8, f9, hpar⟩
          have hR : (xRoom d h h1).frames + 1 ≤ R.frames ∧ 8 + (eL (mOf k) + 11) + (xRoom d h h1).locals ≤ R.locals := ⟨hd1, by show 8 + (eL (mOf k) + 11) + 50 * (d + 1) ≤ _; omega⟩
          have hW8 : 2 * (F0 m pc lsA (st.map (vR ρ))).monitorRoom + (((st.drop (eN (mOf k))).map (vR ρ)).map fun v => v.category).sum ≤ 8 := lv_room (by rw [catS_map]; exact hcs0.1)
          have hlk := link_of (args := args) X.2.2.2.2.1 hx hk9
          have hstk : st.map (vR ρ) = (vs.map (vR ρ)).reverse ++ .ref (ρ a) :: (st.drop (eN (mOf k))).map (vR ρ) := by
            rw [st_split st (eN (mOf k)), hargs]
            simp [vR]
          have hrec : ∃ cell : Cell, H[ρ a]? = some cell ∧ cell.vm.isStatics = false ∧ s.vm.findClass (rn (eOwn (mOf k))) = some cell.cls := va_recv X.2.2.2.2.2.1 S.2.2.2.2.1 (xcl_at hci) (ws_c S.2.1 (by omega) (cell_obj hci hka))
          have kk := fun (vv : Option Value) (s0 t : State) (H1 : Heap) (locs1 : List Loc) (_ : s0.heap = H) (ht : t.heap = H1) (hp : xPost D cA ρ h H.size v h1 (Value.ref (ρ a) :: vs.map (vR ρ)).toArray s0 (.returned vv) t) (hS1 : va_S A s.heap H1 locs1) => call_next IH S hm (st1 := st.drop (eN (mOf k))) (fun x hx => List.mem_of_mem_drop hx) hA1 hc hq ht hp hS1
          have gi := ginst hst hl
          by_cases hn : nest = 0
          · exact my_call (va_runV ⟨X.1, X.2.1, X.2.2.1, X.2.2.2.1, G_hts X.2.2.2.2.1 args⟩ M ⟨callB_of vs.length (G_hts X.2.2.2.2.1 args) g1 rfl rfl rfl (gw X g2.1 g2.2) (hlk.1 hn) g4 hR, gw X gi.1.1 gi.1.2, by rw [← f1]; exact gw X gi.2.1 gi.2.2⟩ ⟨xPre.calling, hrec, pre_of X hAO S hA1⟩ rfl hlen S.1.1 hstk hW8 hd hroom) S.2.2.2.2.2.2.1 (fun q _ h => hA1 q h) hA1 (fun _ _ _ hp => hp.2) kk
          · exact my_call (va_runVN ⟨X.1, X.2.1, X.2.2.1, X.2.2.2.1, G_hts X.2.2.2.2.1 args⟩ M ⟨va_cnB vs.length (G_hts X.2.2.2.2.1 args) g1 rfl rfl rfl (hlk.2 hn) (gw X g2.1 g2.2) g4 hR, gw X gi.1.1 gi.1.2, by rw [← f1]; exact gw X gi.2.1 gi.2.2⟩ ⟨xPre.calling, hrec, pre_of X hAO S hA1⟩ rfl hlen S.1.1 hstk hW8 hd hroom) S.2.2.2.2.2.2.1 (fun q _ h => hA1 q h) hA1 (fun _ _ _ hp => hp.2) kk
        · exact hq.elim
      · exact hq.elim
    · exact hq.elim
  · exact hq.elim
theorem sx_calli (X : xCtx p R s m meth c o nL ini bytes A D cA ρ0 h0 hE scr) (IH : xIH p l e R s m args below meth c Q o rt nL ini bytes pcs A D cA ρ0 h0 hE cf scr B vE n) {ρ : Nat → Nat} {H : Heap} {locs : List Loc} {cells slots pc : Nat} {lsA : Array Slot} {is : List XI} {ls : LL} {st : List Value} {h : Hp} (S : zSt s nL A D cA ρ0 h0 hE ρ H locs cells slots lsA ls st h) (hAO : va_AO "DiceLaw$Text" s) (hcf : cfMono cf) (hcs : xcfOK l R cf) {idx k nest : Nat} (hx : xlu xMt o idx = some (k, nest)) (hk9 : k ≠ 999) (hst : eSt (mOf k) = 2) (hd : decode bytes pc = .ok (.invokespecial idx, 3)) (hc : xchk o rt ini bytes pcs (pc + 3) is = true) (hq : xnRun cf scr B vE hE n (xStep cf scr B (.invokeinterface k (eN (mOf k)), eOwn (mOf k)) is ls st h)) : W p l e R s m args below meth c H locs cells slots Q (F0 m pc lsA (st.map (vR ρ))) := by
  simp only [xStep] at hq
  split at hq
  · rename_i hcs0
    split at hq
    · rename_i a vs hargs
      split at hq
      · rename_i hka
        split at hq
        · rename_i v h1 hcall
          obtain ⟨d, hd1, hd2, hcc⟩ := hcs
          have hnk : ¬ (k = 277 ∨ k = 278 ∨ k = 279 ∨ k = 274) := by
            rintro (rfl | rfl | rfl | rfl) <;> exact absurd hst (by decide)
          obtain ⟨hl, M⟩ := (hcc _ _ _ _ _ hcall).2 hnk
          have hOK : ∀ x ∈ (Value.ref a :: vs), vOK h x := fun x hx => by
            rw [← hargs] at hx
            exact S.2.2.1 x (List.mem_of_mem_take (List.mem_reverse.mp hx))
          have M := M S.2.1 hOK D cA ρ H.size
          have hq : xRun cf scr B n is ls (v.toList ++ st.drop (eN (mOf k))) h1 = some (vE, hE) := hq
          have hm := hcf _ _ _ _ _ hcall
          have hA1 := free_of X S
          have hroom := room_of X S (xRun_mono hcf _ _ _ _ _ _ _ hq) (a := hC h1 - hC h) (b := hS h1 - hS h) (by have := hm.1; omega) (by have := hm.2.1; omega)
          have h3 : eSt (mOf k) ≠ 3 := by omega
          obtain ⟨f1, f2, f3, f4, f5, f6, f7, f8, f9⟩ := gfact h3 hl
          obtain ⟨g1, g2⟩ := gcode h3 hl
          have g2 := List.mem_filter.mp g2
          have hci : eOwn (mOf k) < 12 := (wR_ok k).2 (by omega)
          have hl0 : (st.take (eN (mOf k))).length = vs.length + 1 := by rw [← List.length_reverse, hargs]; rfl
          have hl1 : eN (mOf k) = vs.length + 1 := by have := hcs0.2; simp at hl0; omega
          have hlen : (vs.map (vR ρ)).length = vs.length := by simp
          have hpar : (parseMethodDescriptor (eY (mOf k)).desc).map (fun d => d.parameters.length) = some vs.length := by
            rw [if_neg (by omega)] at f4
            exact par_of (w := 1) (by rw [f4, hl1])
          have g4 : (eY (mOf k)).cls ≠ "java/lang/invoke/MethodHandle" ∧ (eY (mOf k)).cls ≠ "java/lang/invoke/VarHandle" ∧ (parseMethodDescriptor (eY (mOf k)).desc).map (fun d => d.parameters.length) = some vs.length := ⟨f8, f9, hpar⟩
          have hR : (xRoom d h h1).frames + 1 ≤ R.frames ∧ 8 + (eL (mOf k) + 11) + (xRoom d h h1).locals ≤ R.locals := ⟨hd1, by show 8 + (eL (mOf k) + 11) + 50 * (d + 1) ≤ _; omega⟩
          have hW8 : 2 * (F0 m pc lsA (st.map (vR ρ))).monitorRoom + (((st.drop (eN (mOf k))).map (vR ρ)).map fun v => v.category).sum ≤ 8 := lv_room (by rw [catS_map]; exact hcs0.1)
          have hlk := link_of (args := args) X.2.2.2.2.1 hx hk9
          have hstk : st.map (vR ρ) = (vs.map (vR ρ)).reverse ++ .ref (ρ a) :: (st.drop (eN (mOf k))).map (vR ρ) := by
            rw [st_split st (eN (mOf k)), hargs]
            simp [vR]
          have hrec : ∃ cell : Cell, H[ρ a]? = some cell ∧ cell.vm.isStatics = false ∧ s.vm.findClass (rn (eOwn (mOf k))) = some cell.cls := va_recv X.2.2.2.2.2.1 S.2.2.2.2.1 (xcl_at hci) (ws_c S.2.1 (by omega) (cell_obj hci hka))
          have kk := fun (vv : Option Value) (s0 t : State) (H1 : Heap) (locs1 : List Loc) (_ : s0.heap = H) (ht : t.heap = H1) (hp : xPost D cA ρ h H.size v h1 (Value.ref (ρ a) :: vs.map (vR ρ)).toArray s0 (.returned vv) t) (hS1 : va_S A s.heap H1 locs1) => call_next IH S hm (st1 := st.drop (eN (mOf k))) (fun x hx => List.mem_of_mem_drop hx) hA1 hc hq ht hp hS1
          have gi := ginit hst hl
          have hret : eRet (mOf k) = none := by simp [eRet, (wR_ok k).1 hst]
          unfold wCode at g1 M
          rw [hret] at g1 M
          by_cases hn : nest = 0
          · exact my_call (va_runI ⟨X.1, X.2.1, X.2.2.1, X.2.2.2.1, G_hts X.2.2.2.2.1 args⟩ M ⟨callB_of vs.length (G_hts X.2.2.2.2.1 args) g1 rfl rfl rfl (gw X g2.1 g2.2) (hlk.1 hn) g4 hR, f2 hst, gw X gi.1 gi.2⟩ ⟨xPre.calling, pre_of X hAO S hA1⟩ rfl hlen S.1.1 hstk hW8 hd hroom) S.2.2.2.2.2.2.1 (fun q _ h => hA1 q h) hA1 (fun _ _ _ hp => hp.2) kk
          · exact my_call (va_runIN ⟨X.1, X.2.1, X.2.2.1, X.2.2.2.1, G_hts X.2.2.2.2.1 args⟩ M ⟨va_cnB vs.length (G_hts X.2.2.2.2.1 args) g1 rfl rfl rfl (hlk.2 hn) (gw X g2.1 g2.2) g4 hR, f2 hst, gw X gi.1 gi.2⟩ ⟨xPre.calling, pre_of X hAO S hA1⟩ rfl hlen S.1.1 hstk hW8 hd hroom) S.2.2.2.2.2.2.1 (fun q _ h => hA1 q h) hA1 (fun _ _ _ hp => hp.2) kk
        · exact hq.elim
      · exact hq.elim
    · exact hq.elim
  · exact hq.elim
theorem sx_obj (X : xCtx p R s m meth c o nL ini bytes A D cA ρ0 h0 hE scr) (IH : xIH p l e R s m args below meth c Q o rt nL ini bytes pcs A D cA ρ0 h0 hE cf scr B vE n) {ρ : Nat → Nat} {H : Heap} {locs : List Loc} {cells slots pc : Nat} {lsA : Array Slot} {is : List XI} {ls : LL} {st : List Value} {h : Hp} (S : zSt s nL A D cA ρ0 h0 hE ρ H locs cells slots lsA ls st h) (hR1 : 1 ≤ R.frames ∧ 20 ≤ R.locals) {idx nest : Nat} (hx : xlu xMt o idx = some (999, nest)) (hn : nest = 0) (hd : decode bytes pc = .ok (.invokespecial idx, 3)) (hc : xchk o rt ini bytes pcs (pc + 3) is = true) (hq : xnRun cf scr B vE hE n (xStep cf scr B (.monitorexit, 0) is ls st h)) : W p l e R s m args below meth c H locs cells slots Q (F0 m pc lsA (st.map (vR ρ))) := by
  simp only [xStep] at hq
  split at hq
  · rename_i a r
    split at hq
    · rename_i hc8
      have hw : Jvm.Cond.methodLink (rn o) idx yObj ∈ lw_tbl := by simpa [wM, hn] using wM_in hx
      have hsum : ((r.map (vR ρ)).map fun v => v.category).sum ≤ 8 := by rw [catS_map]; exact hc8
      refine W.objInit X.1 X.2.1 X.2.2.2.1 (gw X hw (by first | rfl | simp [goodWord, Jvm.Cond.onTables, Jvm.Cond.keeps, Jvm.Cond.steady])) (gw X (in_tbl wObj_ok.1) (by first | rfl | simp [goodWord, Jvm.Cond.onTables, Jvm.Cond.keeps, Jvm.Cond.steady])) (gw X (in_tbl wObj_ok.2) (by first | rfl | simp [goodWord, Jvm.Cond.onTables, Jvm.Cond.keeps, Jvm.Cond.steady])) rfl (S.1.1.trans X.2.2.1.symm) rfl hd hR1.1 (by have h9 := lv_room (m := m) (pc := pc) (ls := lsA) (rest := (.ref (ρ a) :: r.map (vR ρ))) hsum; have h10 := hR1.2; exact Nat.le_trans (Nat.add_le_add_right h9 12) h10) (W.eq rfl (IH _ _ _ _ hq _ _ _ _ _ _ _ hc (S.stk (al_t S.2.2.1))))
    · exact hq.elim
  · exact hq.elim
end
