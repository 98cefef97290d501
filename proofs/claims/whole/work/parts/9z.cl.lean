/-! DiceLaw.clause, which throws or answers; the law's clause around it. -/
theorem dX10_clause_0 : decode cX10_clause 0 = .ok (.aload_n 0, 1) := by decide +kernel
theorem dX10_clause_1 : decode cX10_clause 1 = .ok (.getfield 41, 3) := by decide +kernel
theorem dX10_clause_4 : decode cX10_clause 4 = .ok (.iload_n 1, 1) := by decide +kernel
theorem dX10_clause_5 : decode cX10_clause 5 = .ok (.iload_n 2, 1) := by decide +kernel
theorem dX10_clause_6 : decode cX10_clause 6 = .ok (.invokevirtual 129, 3) := by decide +kernel
theorem dX10_clause_9 : decode cX10_clause 9 = .ok (.ifCond .ne 13, 3) := by decide +kernel
theorem dX10_clause_12 : decode cX10_clause 12 = .ok (.new 133, 3) := by decide +kernel
theorem dX10_clause_15 : decode cX10_clause 15 = .ok (.dup, 1) := by decide +kernel
theorem dX10_clause_16 : decode cX10_clause 16 = .ok (.ldc 135, 2) := by decide +kernel
theorem dX10_clause_18 : decode cX10_clause 18 = .ok (.invokespecial 137, 3) := by decide +kernel
theorem dX10_clause_21 : decode cX10_clause 21 = .ok (.athrow, 1) := by decide +kernel
theorem dX10_clause_22 : decode cX10_clause 22 = .ok (.aload_n 0, 1) := by decide +kernel
theorem dX10_clause_23 : decode cX10_clause 23 = .ok (.getfield 41, 3) := by decide +kernel
theorem dX10_clause_26 : decode cX10_clause 26 = .ok (.iload_n 1, 1) := by decide +kernel
theorem dX10_clause_27 : decode cX10_clause 27 = .ok (.iload_n 2, 1) := by decide +kernel
theorem dX10_clause_28 : decode cX10_clause 28 = .ok (.invokevirtual 140, 3) := by decide +kernel
theorem dX10_clause_31 : decode cX10_clause 31 = .ok (.ireturn, 1) := by decide +kernel
theorem dL_clause_0 : decode cL_clause 0 = .ok (.aload_n 3, 1) := by decide +kernel
theorem dL_clause_1 : decode cL_clause 1 = .ok (.iconst 0, 1) := by decide +kernel
theorem dL_clause_2 : decode cL_clause 2 = .ok (.aload_n 0, 1) := by decide +kernel
theorem dL_clause_3 : decode cL_clause 3 = .ok (.iload_n 1, 1) := by decide +kernel
theorem dL_clause_4 : decode cL_clause 4 = .ok (.iload_n 2, 1) := by decide +kernel
theorem dL_clause_5 : decode cL_clause 5 = .ok (.invokevirtual 7, 3) := by decide +kernel
theorem dL_clause_8 : decode cL_clause 8 = .ok (.i2l, 1) := by decide +kernel
theorem dL_clause_9 : decode cL_clause 9 = .ok (.lastore, 1) := by decide +kernel
theorem dL_clause_10 : decode cL_clause 10 = .ok (.goto 7, 3) := by decide +kernel
theorem dL_clause_13 : decode cL_clause 13 = .ok (.astore 4, 2) := by decide +kernel
theorem dL_clause_15 : decode cL_clause 15 = .ok (.iconst 1, 1) := by decide +kernel
theorem dL_clause_16 : decode cL_clause 16 = .ok (.ireturn, 1) := by decide +kernel
theorem dL_clause_17 : decode cL_clause 17 = .ok (.iconst 0, 1) := by decide +kernel
theorem dL_clause_18 : decode cL_clause 18 = .ok (.ireturn, 1) := by decide +kernel
set_option maxRecDepth 100000 in
theorem clw : (Jvm.Cond.methodLinkNest RX10 129 (eY (mOf 191)) "DiceLaw" ∈ tables_1 ∧ Jvm.Cond.methodLinkNest RX10 140 (eY (mOf 192)) "DiceLaw" ∈ tables_1) := by decide +kernel
def clws : List Jvm.Cond := [.code yX10_clause cX10_clause 3 (some .int), .methodLink RL 7 yX10_clause, .instanceMethod yX10_clause, .selects RX10 yX10_clause yX10_clause, .initialized RX10, .codeWith yL_clause cL_clause 5 (some .int) [(0, 10, 13, 13)], .methodLink RL 38 yL_clause, .static yL_clause, .initialized RL]
set_option maxRecDepth 100000 in
theorem clws_ok : ∀ w ∈ clws, w ∈ tables_1 ∧ goodWord w = true := by decide +kernel
theorem clq {s : State} (hI : Inv s) {i : Nat} {w : Jvm.Cond} (h : clws[i]? = some w) (args : Array Value) : w.before args s = true :=
  Inv.use hI (in_tbl (clws_ok w (List.mem_of_getElem? h)).1) (clws_ok w (List.mem_of_getElem? h)).2 args
theorem clg {i : Nat} {w : Jvm.Cond} (h : clws[i]? = some w) : GoodIn G [w] := fun x hx => by
  rw [List.mem_singleton.mp hx]
  exact ⟨G_in (in_tbl (clws_ok w (List.mem_of_getElem? h)).1) (clws_ok w (List.mem_of_getElem? h)).2, good_of_word (clws_ok w (List.mem_of_getElem? h)).2⟩
theorem u191 : eSt (mOf 191) = 1 ∧ eY (mOf 191) ≠ yL_law ∧ eN (mOf 191) = 3 ∧ eOwn (mOf 191) = 0 ∧ eSt (mOf 192) = 1 ∧ eY (mOf 192) ≠ yL_law ∧ eN (mOf 192) = 3 ∧ eOwn (mOf 192) = 0 := by decide +kernel
theorem cl_ft : xlu xFt 10 41 = some (10, 6, 0) := by decide +kernel
theorem cl_nx : 6 < Nx 10 := by decide +kernel
def ClP (D : va_G) (cA : Nat → ClassId) (ρ : Nat → Nat) (h : Hp) (sz : Nat) : State → Prop := fun U => xPre D cA ρ h sz U ∧ ExW U ∧ vx_Zq Bundle.tN "UNASSIGNED_STACK" Bundle.steD (va_A (wsR ρ cA h) sz) U U.heap ∧ vx_Zq Bundle.tN "SUPPRESSED_SENTINEL" Bundle.listD (va_A (wsR ρ cA h) sz) U U.heap
theorem ClP.calling {D : va_G} {cA : Nat → ClassId} {ρ : Nat → Nat} {h : Hp} {sz : Nat} {av : List Value} : FrameBlind (va_Pc av (ClP D cA ρ h sz)) := by
  intro a U g mk ⟨e, hp, hw, z1, z2⟩
  exact ⟨e, (xPre.calling (av := av) a U g mk ⟨e, hp⟩).2, ExW.warm (s := U) (U := U.calling g mk a) (State.WarmedH.refl U) hw, vx_Zq.moved (u := U) (U := U.calling g mk a) (Vm.Alike.refl U.vm) z1, vx_Zq.moved (u := U) (U := U.calling g mk a) (Vm.Alike.refl U.vm) z2⟩
/-- where DiceLaw.clause has thrown -/
def ClX (D : va_G) (cA : Nat → ClassId) (ρ : Nat → Nat) (h : Hp) (sz : Nat) (h1 : Hp) : String → State → State → Prop := fun E st t =>
  E = exC ∧ (∃ ρ' : Nat → Nat, agr h ρ ρ' ∧ WF h1 ∧ va_P D xcl (wsR ρ' cA h1) t.heap ∧ va_D (va_A (wsR ρ cA h) sz) (wsR ρ' cA h1)) ∧ va_F (va_A (wsR ρ cA h) sz) st t
theorem cl_ef {ρ : Nat → Nat} {h : Hp} {x b : Nat} (hrb : hR h x 6 = some b) : fldR ρ h x 10 6 = .ref (ρ b) := by
  have ht : tyx 10 6 = .object "DiceLaw$Book" := by decide +kernel
  unfold fldR
  rw [ht, hrb]
  rfl
set_option maxHeartbeats 1000000 in
/-- it throws where the law isn't there -/
theorem c_X10A (l : Launch) (hl : l.stackTraces = false) {d x b : Nat} {p0 p1 : Int32} {h h1 : Hp} (hw : WF h) (hkx : hK h x = 11) (hrb : hR h x 6 = some b) (hkb : hK h b = 1) (M : xCon l d 191 [.ref b, .int p0, .int p1] h (some (.int 0)) h1) (hm : le3 h h1) (D : va_G) (cA : Nat → ClassId) (ρ : Nat → Nat) (sz : Nat) :
    vx_Met l yX10_clause [.code yX10_clause cX10_clause 3 (some .int)] { frames := d + 10, cells := hC h1 - hC h + 1, slots := hS h1 - hS h + 6, locals := 50 * (d + 4) } (va_Pc (([.ref x, .int p0, .int p1] : List Value).map (vR ρ)) (ClP D cA ρ h sz)) (fun _ _ _ _ => False) (ClX D cA ρ h sz h1) (hC h1 - hC h + 1) (hS h1 - hS h + 6) (va_A (wsR ρ cA h) sz) := by
  have hm1 := hm.1
  have hm2 := hm.2.1
  obtain ⟨u1, u2, u3, u4, -⟩ := u191
  refine vx_ofW (cc := cX10_clause) (maxL := 3) (ret := some .int) (ws' := []) (by decide) rfl ?_
  intro p e s m args below meth c s₁ B hml htb hv
  obtain ⟨rfl, ⟨hsz, hP, hK0, hD0, hI, hAO, hStr⟩, hEx, hzU, hzN⟩ := hv
  subst hsz
  have hown : s.vm.findClass RX10 = some m.cls := findClass_of_methodNamed B.named
  have hA : ∀ q, s.heap.size ≤ q → va_A (wsR ρ cA h) s.heap.size q := fun q z => Or.inr z
  have X : xCtx p (headSpec [.code yX10_clause cX10_clause 3 (some .int)] { frames := d + 10, cells := hC h1 - hC h + 1, slots := hS h1 - hS h + 6, locals := 50 * (d + 4) }).room s m meth c 10 3 false cX10_clause (va_A (wsR ρ cA h) s.heap.size) D cA ρ h (hPay h1 1 6) none := ⟨B.exec, B.bytes, hml, hown, hI, hK0, hA, (fun z => by cases z), ⟨by show hC h1 + 1 ≤ hC h + (hC h1 - hC h + 1); omega, by show hS h1 + 6 ≤ hS h + (hS h1 - hS h + 6); omega⟩, hStr, fun q hq => by cases hq⟩
  obtain ⟨lv1, lv2⟩ := linit_lv (ρ := ρ) (vs := [.ref x, .int p0, .int p1]) (nL := 3) (Nat.le_of_ble_eq_true rfl)
  rw [lg_entry_eq]
  generalize (lg_sl (([.ref x, .int p0, .int p1] : List Value).map (vR ρ)) ++ List.replicate (3 - (lg_sl (([.ref x, .int p0, .int p1] : List Value).map (vR ρ))).length) Slot.unset).toArray = lsA at lv1 ⊢
  have hxl : x < hZ h := kd_lt hw (by omega)
  have hbl : b < hZ h := kd_lt hw (by omega)
  have hOK : ∀ v ∈ ([.ref x, .int p0, .int p1] : List Value), vOK h v := by
    intro v hv
    rcases List.mem_cons.mp hv with rfl | hv
    · exact vOK_ref (Or.inl hxl)
    · rcases List.mem_cons.mp hv with rfl | hv
      · exact vOK_int _
      · rw [List.mem_singleton.mp hv]; exact vOK_int _
  have S : zSt s 3 (va_A (wsR ρ cA h) s.heap.size) D cA ρ h (hPay h1 1 6) ρ s.heap [] 0 0 lsA (linit 3 [.ref x, .int p0, .int p1]) ([.int p0, .int p1].reverse ++ .ref b :: []) h :=
    ⟨lv1, hw, (fun v hv => by
      rcases List.mem_cons.mp hv with rfl | hv
      · exact vOK_int _
      · rcases List.mem_cons.mp hv with rfl | hv
        · exact vOK_int _
        · rw [List.mem_singleton.mp hv]; exact vOK_ref (Or.inl hbl)), fun i v hv => hOK v (lv2 i v hv), hP, hD0.self, va_S.rf, ⟨fun _ _ => rfl, Nat.le_refl _⟩, rfl, rfl⟩
  refine lv_aload_n B.exec B.bytes dX10_clause_0 rfl (lv1.2.2.2 0 (.ref x) rfl) ?_
  refine sx_getF X hP cl_ft cl_nx (by decide) hxl hkx dX10_clause_1 ?_
  rw [cl_ef hrb]
  refine lv_iload_n B.exec B.bytes dX10_clause_4 rfl (lv1.2.2.2 1 (.int p0) rfl) ?_
  refine lv_iload_n B.exec B.bytes dX10_clause_5 rfl (lv1.2.2.2 2 (.int p1) rfl) ?_
  refine hand_v X (vs := [.int p0, .int p1]) (rest := []) S hAO (Inv.nw hI (in_tbl clw.1) (by first | rfl | simp [okTag])) u1 u2 M u3 (by decide) (by rw [u4]; exact hkb) hm ⟨Nat.le_add_right _ _, Nat.le_add_right _ _, Nat.le_refl _⟩ (by show d + 2 ≤ d + 10; omega) (by show 49 + 50 * (d + 1) ≤ 50 * (d + 4); omega) dX10_clause_6 (fun ρ' H1 locs1 hg S' => ?_)
  refine lv_if_ne B.exec B.bytes dX10_clause_9 (tgt := 22) rfl (fun z => absurd rfl z) (fun _ => ?_)
  have hS' := S'.2.2.2.2.2.2.1
  have hP' := S'.2.2.2.2.1
  refine ex_throw B.exec B.bytes hl hown hStr.2.2.2.1 hEx hzU hzN hS' (S'.1.1.trans hml.symm) dX10_clause_12 dX10_clause_15 dX10_clause_16 dX10_clause_18 dX10_clause_21 (fun z hz => (htb z hz).elim) (by show 5 < d + 10; omega) (by show 0 + 82 ≤ 50 * (d + 4); omega) (by show 0 + (hC h1 - hC h) + 1 ≤ hC h1 - hC h + 1; omega) (by show 0 + (hS h1 - hS h) + 6 ≤ hS h1 - hS h + 6; omega) B.notSynchronized (fun t _ hz hk => ⟨rfl, ⟨ρ', hg, S'.2.1, hP'.kept (fun k q hkq => hk q.1 (hP' k q hkq).lt), S'.2.2.2.2.2.1⟩, Nat.le_trans hS'.1 hz, fun q hq hn => by rw [hk q (Nat.lt_of_lt_of_le hq hS'.1)]; exact hS'.2.1 q hq hn⟩) hS'.2.2 (by omega) (by omega)
set_option maxHeartbeats 1000000 in
/-- it answers where the law is there -/
theorem c_X10B (l : Launch) {d x b : Nat} {p0 p1 r v : Int32} {h h1 h2 : Hp} (hw : WF h) (hkx : hK h x = 11) (hrb : hR h x 6 = some b) (hkb : hK h b = 1) (M : xCon l d 191 [.ref b, .int p0, .int p1] h (some (.int r)) h1) (hr : ¬ r = 0) (hm : le3 h h1) (hkx1 : hK h1 x = 11) (hrb1 : hR h1 x 6 = some b) (hkb1 : hK h1 b = 1) (M2 : xCon l d 192 [.ref b, .int p0, .int p1] h1 (some (.int v)) h2) (hmm : le3 h1 h2) (D : va_G) (cA : Nat → ClassId) (ρ : Nat → Nat) (sz : Nat) :
    Met l yX10_clause [.code yX10_clause cX10_clause 3 (some .int)] { frames := d + 10, cells := hC h2 - hC h, slots := hS h2 - hS h, locals := 50 * (d + 4) } (va_Pc (([.ref x, .int p0, .int p1] : List Value).map (vR ρ)) (ClP D cA ρ h sz)) (xPost D cA ρ h sz (some (.int v)) h2) (hC h2 - hC h) (hS h2 - hS h) (va_A (wsR ρ cA h) sz) := by
  have hm1 := hm.1
  have hm2 := hm.2.1
  have hm3 := hmm.1
  have hm4 := hmm.2.1
  obtain ⟨u1, u2, u3, u4, u5, u6, u7, u8⟩ := u191
  refine Met.ofW (cc := cX10_clause) (maxL := 3) (ret := some .int) (ws' := []) (by decide) rfl ?_
  intro p e s m args below meth c s₁ B hml hv
  obtain ⟨rfl, ⟨hsz, hP, hK0, hD0, hI, hAO, hStr⟩, -⟩ := hv
  subst hsz
  have hown : s.vm.findClass RX10 = some m.cls := findClass_of_methodNamed B.named
  have hA : ∀ q, s.heap.size ≤ q → va_A (wsR ρ cA h) s.heap.size q := fun q z => Or.inr z
  have X : xCtx p (headSpec [.code yX10_clause cX10_clause 3 (some .int)] { frames := d + 10, cells := hC h2 - hC h, slots := hS h2 - hS h, locals := 50 * (d + 4) }).room s m meth c 10 3 false cX10_clause (va_A (wsR ρ cA h) s.heap.size) D cA ρ h h2 none := ⟨B.exec, B.bytes, hml, hown, hI, hK0, hA, (fun z => by cases z), ⟨by show hC h2 ≤ hC h + (hC h2 - hC h); omega, by show hS h2 ≤ hS h + (hS h2 - hS h); omega⟩, hStr, fun q hq => by cases hq⟩
  obtain ⟨lv1, lv2⟩ := linit_lv (ρ := ρ) (vs := [.ref x, .int p0, .int p1]) (nL := 3) (Nat.le_of_ble_eq_true rfl)
  rw [lg_entry_eq]
  generalize (lg_sl (([.ref x, .int p0, .int p1] : List Value).map (vR ρ)) ++ List.replicate (3 - (lg_sl (([.ref x, .int p0, .int p1] : List Value).map (vR ρ))).length) Slot.unset).toArray = lsA at lv1 ⊢
  have hxl : x < hZ h := kd_lt hw (by omega)
  have hbl : b < hZ h := kd_lt hw (by omega)
  have hOK : ∀ v ∈ ([.ref x, .int p0, .int p1] : List Value), vOK h v := by
    intro v hv
    rcases List.mem_cons.mp hv with rfl | hv
    · exact vOK_ref (Or.inl hxl)
    · rcases List.mem_cons.mp hv with rfl | hv
      · exact vOK_int _
      · rw [List.mem_singleton.mp hv]; exact vOK_int _
  have stk : ∀ {g : Hp}, b < hZ g → ∀ v ∈ (([.int p0, .int p1] : List Value).reverse ++ .ref b :: []), vOK g v := fun hb v hv => by
      rcases List.mem_cons.mp hv with rfl | hv
      · exact vOK_int _
      · rcases List.mem_cons.mp hv with rfl | hv
        · exact vOK_int _
        · rw [List.mem_singleton.mp hv]; exact vOK_ref (Or.inl hb)
  have S : zSt s 3 (va_A (wsR ρ cA h) s.heap.size) D cA ρ h h2 ρ s.heap [] 0 0 lsA (linit 3 [.ref x, .int p0, .int p1]) ([.int p0, .int p1].reverse ++ .ref b :: []) h :=
    ⟨lv1, hw, stk hbl, fun i v hv => hOK v (lv2 i v hv), hP, hD0.self, va_S.rf, ⟨fun _ _ => rfl, Nat.le_refl _⟩, rfl, rfl⟩
  refine lv_aload_n B.exec B.bytes dX10_clause_0 rfl (lv1.2.2.2 0 (.ref x) rfl) ?_
  refine sx_getF X hP cl_ft cl_nx (by decide) hxl hkx dX10_clause_1 ?_
  rw [cl_ef hrb]
  refine lv_iload_n B.exec B.bytes dX10_clause_4 rfl (lv1.2.2.2 1 (.int p0) rfl) ?_
  refine lv_iload_n B.exec B.bytes dX10_clause_5 rfl (lv1.2.2.2 2 (.int p1) rfl) ?_
  refine hand_v X (vs := [.int p0, .int p1]) (rest := []) S hAO (Inv.nw hI (in_tbl clw.1) (by first | rfl | simp [okTag])) u1 u2 M u3 (by decide) (by rw [u4]; exact hkb) hm hmm (by show d + 2 ≤ d + 10; omega) (by show 49 + 50 * (d + 1) ≤ 50 * (d + 4); omega) dX10_clause_6 (fun ρ' H1 locs1 hg S' => ?_)
  refine lv_if_ne B.exec B.bytes dX10_clause_9 (tgt := 22) rfl (fun _ => ?_) (fun z => absurd z hr)
  have lv' := S'.1
  refine lv_aload_n B.exec B.bytes dX10_clause_22 rfl (lv'.2.2.2 0 (.ref x) rfl) ?_
  refine sx_getF X S'.2.2.2.2.1 cl_ft cl_nx (by decide) (kd_lt S'.2.1 (by omega)) hkx1 dX10_clause_23 ?_
  rw [cl_ef hrb1]
  refine lv_iload_n B.exec B.bytes dX10_clause_26 rfl (lv'.2.2.2 1 (.int p0) rfl) ?_
  refine lv_iload_n B.exec B.bytes dX10_clause_27 rfl (lv'.2.2.2 2 (.int p1) rfl) ?_
  refine hand_v X (vs := [.int p0, .int p1]) (rest := []) (S'.stk (stk (kd_lt S'.2.1 (by omega)))) hAO (Inv.nw hI (in_tbl clw.2) (by first | rfl | simp [okTag])) u5 u6 M2 u7 (by decide) (by rw [u8]; exact hkb1) hmm (le3.rf _) (by show d + 2 ≤ d + 10; omega) (by show 49 + 50 * (d + 1) ≤ 50 * (d + 4); omega) dX10_clause_28 (fun ρ2 H2 locs2 hg2 S2 => ?_)
  have e1 : hC h2 - hC h = 0 + (hC h1 - hC h) + (hC h2 - hC h1) := by omega
  have e2 : hS h2 - hS h = 0 + (hS h1 - hS h) + (hS h2 - hS h1) := by omega
  rw [e1, e2]
  exact W.iret B.exec B.bytes B.returns (fun t ht _ => ⟨⟨ρ2, rfl, (fun y hy => by cases hy; exact Or.inl ⟨v, rfl⟩), S2.2.2.2.2.2.2.2.1.1, S2.2.1, by rw [ht]; exact S2.2.2.2.2.1, S2.2.2.2.2.2.1⟩, S2.2.2.2.2.2.2.1.F ht⟩) S2.2.2.2.2.2.2.1.2.2 dX10_clause_31 B.notSynchronized

section
variable {p : Program} {l : Launch} {e : Env} {R : Room} {s : State} {m : MethodId} {args : Array Value} {below : List Frame} {meth : Method} {c : Code} {Q : State → Prop} {o nL : Nat} {ini : Bool} {bytes : ByteArray} {A : Nat → Prop} {D : va_G} {cA : Nat → ClassId} {ρ0 : Nat → Nat} {h0 hE : Hp} {scr : Option (Nat × (Nat → Int32))}
def LW : Jvm.Cond := .codeWith yL_clause cL_clause 5 (some .int) [(0, 10, 13, 13)]
def LR (d : Nat) (h h1 : Hp) : Room := { frames := d + 12, cells := hC h1 - hC h, slots := hS h1 - hS h, locals := 50 * (d + 6) }
theorem pre_cl (X : xCtx p R s m meth c o nL ini bytes A D cA ρ0 h0 hE scr) (hAO : va_AO "DiceLaw$Text" s) {ρ : Nat → Nat} {H : Heap} {locs : List Loc} {cells slots : Nat} {lsA : Array Slot} {ls : LL} {st : List Value} {h : Hp} (S : zSt s nL A D cA ρ0 h0 hE ρ H locs cells slots lsA ls st h) (hEx : ExW s) (hzU : vx_Zq Bundle.tN "UNASSIGNED_STACK" Bundle.steD A s s.heap) (hzN : vx_Zq Bundle.tN "SUPPRESSED_SENTINEL" Bundle.listD A s s.heap) {av : List Value} : ∀ U : State, U.heap = H → s.WarmedH U.vm → va_Pc av (ClP D cA ρ h H.size) av.toArray U := by
  intro U hU hW
  have hA1 := free_of X S
  refine ⟨rfl, (pre_of X hAO S hA1 (av := av) U hU hW).2, hEx.warm hW, ?_, ?_⟩
  · rw [hU]; exact vx_Zq.moved hW.alike ((hzU.kept S.2.2.2.2.2.2.1.2.1).narrow hA1)
  · rw [hU]; exact vx_Zq.moved hW.alike ((hzN.kept S.2.2.2.2.2.2.1.2.1).narrow hA1)
end
set_option maxHeartbeats 1000000 in
theorem c_LA (l : Launch) (hl : l.stackTraces = false) {d x b o : Nat} {p0 p1 : Int32} {h h1 : Hp} (hw : WF h) (ho : o < hZ h) (hkx : hK h x = 11) (hrb : hR h x 6 = some b) (hkb : hK h b = 1) (M : xCon l d 191 [.ref b, .int p0, .int p1] h (some (.int 0)) h1) (hm : le3 h h1) (D : va_G) (cA : Nat → ClassId) (ρ : Nat → Nat) (sz : Nat) :
    Met l yL_clause [LW] (LR d h (hPay h1 1 6)) (va_Pc (([.ref x, .int p0, .int p1, .ref o] : List Value).map (vR ρ)) (ClP D cA ρ h sz)) (xPost D cA ρ h sz (some (.int 1)) (hPay h1 1 6)) (hC (hPay h1 1 6) - hC h) (hS (hPay h1 1 6) - hS h) (va_A (wsR ρ cA h) sz) := by
  have hm1 := hm.1
  have hm2 := hm.2.1
  refine va_MetW (cc := cL_clause) (maxL := 5) (ret := some .int) (hh := [(0, 10, 13, 13)]) (ws' := []) (by decide) rfl ?_
  intro p e s m args below meth c s₁ B hml hv
  obtain ⟨rfl, ⟨hsz, hP, hK0, hD0, hI, hAO, hStr⟩, hEx, hzU, hzN⟩ := hv
  subst hsz
  have hown : s.vm.findClass RL = some m.cls := findClass_of_methodNamed B.named
  have hA : ∀ q, s.heap.size ≤ q → va_A (wsR ρ cA h) s.heap.size q := fun q z => Or.inr z
  have X : xCtx p (headSpec [LW] (LR d h (hPay h1 1 6))).room s m meth c 12 5 false cL_clause (va_A (wsR ρ cA h) s.heap.size) D cA ρ h (hPay h1 1 6) none := ⟨B.exec, B.bytes, hml, hown, hI, hK0, hA, (fun z => by cases z), ⟨by show hC h1 + 1 ≤ hC h + (hC h1 + 1 - hC h); omega, by show hS h1 + 6 ≤ hS h + (hS h1 + 6 - hS h); omega⟩, hStr, fun q hq => by cases hq⟩
  have htab : c.exceptionTable.toList = tableOf [(0, 10, 13, 13)] := vx_table (x := yL_clause) B (clq hI (i := 5) rfl ((([.ref x, .int p0, .int p1, .ref o] : List Value).map (vR ρ)).toArray))
  obtain ⟨lv1, lv2⟩ := linit_lv (ρ := ρ) (vs := [.ref x, .int p0, .int p1, .ref o]) (nL := 5) (Nat.le_of_ble_eq_true rfl)
  rw [lg_entry_eq]
  generalize (lg_sl (([.ref x, .int p0, .int p1, .ref o] : List Value).map (vR ρ)) ++ List.replicate (5 - (lg_sl (([.ref x, .int p0, .int p1, .ref o] : List Value).map (vR ρ))).length) Slot.unset).toArray = lsA at lv1 ⊢
  have hxl : x < hZ h := kd_lt hw (by omega)
  have hOK : ∀ v ∈ ([.ref x, .int p0, .int p1, .ref o] : List Value), vOK h v := by
    intro v hv
    rcases List.mem_cons.mp hv with rfl | hv
    · exact vOK_ref (Or.inl hxl)
    · rcases List.mem_cons.mp hv with rfl | hv
      · exact vOK_int _
      · rcases List.mem_cons.mp hv with rfl | hv
        · exact vOK_int _
        · rw [List.mem_singleton.mp hv]; exact vOK_ref (Or.inl ho)
  have S : zSt s 5 (va_A (wsR ρ cA h) s.heap.size) D cA ρ h (hPay h1 1 6) ρ s.heap [] 0 0 lsA (linit 5 [.ref x, .int p0, .int p1, .ref o]) [] h :=
    ⟨lv1, hw, (fun _ z => by cases z), fun i v hv => hOK v (lv2 i v hv), hP, hD0.self, va_S.rf, ⟨fun _ _ => rfl, Nat.le_refl _⟩, rfl, rfl⟩
  refine lv_aload_n B.exec B.bytes dL_clause_0 rfl (lv1.2.2.2 3 (.ref o) rfl) ?_
  refine lv_iconst (v := 0) B.exec B.bytes dL_clause_1 (by decide) ?_
  refine lv_aload_n B.exec B.bytes dL_clause_2 rfl (lv1.2.2.2 0 (.ref x) rfl) ?_
  refine lv_iload_n B.exec B.bytes dL_clause_3 rfl (lv1.2.2.2 1 (.int p0) rfl) ?_
  refine lv_iload_n B.exec B.bytes dL_clause_4 rfl (lv1.2.2.2 2 (.int p1) rfl) ?_
  have hrec : ∃ cell : Cell, s.heap[ρ x]? = some cell ∧ cell.vm.isStatics = false ∧ s.vm.findClass RX10 = some cell.cls := va_recv hK0 hP (xcl_at (ci := 10) (by decide)) (ws_c hw (by omega) (cell_obj (by decide) hkx))
  have run := vx_runV (p := p) (e := e) (R := (headSpec [LW] (LR d h (hPay h1 1 6))).room) (below := below) (meth := meth) (H := s.heap) (locs := []) (cells := 0) (slots := 0) (As := [.int p0, .int p1]) (rest := [.int 0, .ref (ρ o)]) (g := F0 m 5 lsA [.int p1, .int p0, .ref (ρ x), .int 0, .ref (ρ o)]) ⟨B.exec, B.bytes, hml, hown, G_hts hI ((([.ref x, .int p0, .int p1, .ref o] : List Value).map (vR ρ)).toArray)⟩ (c_X10A l hl hw hkx hrb hkb M hm D cA ρ s.heap.size) ⟨callB_of 2 (G_hts hI _) (clg (i := 0) rfl) rfl rfl rfl (clq hI (i := 4) rfl _) (clq hI (i := 1) rfl _) (by decide +kernel) ⟨by show d + 10 + 1 ≤ d + 12; omega, by show 8 + (3 + 11) + 50 * (d + 4) ≤ 50 * (d + 6); omega⟩, clq hI (i := 2) rfl _, clq hI (i := 3) rfl _⟩ ⟨ClP.calling, hrec, pre_cl X hAO S hEx hzU hzN⟩ rfl rfl lv1.1 rfl (lv_room (Nat.le_of_ble_eq_true rfl)) dL_clause_5 ⟨by show 0 + (hC h1 - hC h + 1) ≤ hC h1 + 1 - hC h; omega, by show 0 + (hS h1 - hS h + 6) ≤ hS h1 + 6 - hS h; omega⟩
  have e1 : hC (hPay h1 1 6) - hC h = 0 + (hC h1 - hC h + 1) := by show hC h1 + 1 - hC h = _; omega
  have e2 : hS (hPay h1 1 6) - hS h = 0 + (hS h1 - hS h + 6) := by show hS h1 + 6 - hS h = _; omega
  intro T hT X0
  rcases run T hT X0 with ⟨v, st0, t, T', L, h0, X', hL, q1, q2, hq, st⟩ | ⟨q, st0, t, T', L, E, ce, h0, X', hL, q1, q2, ⟨rfl, ⟨ρ', hg, hw1, hP1, hD1⟩, hF⟩, hce, hcv, hcl, st⟩
  · exact hq.elim
  · obtain ⟨k1, k2, k3⟩ := vx_keep (A0 := va_A (wsR ρ cA h) s.heap.size) (H0 := s.heap) h0 q1 va_S.rf (fun _ _ z => z) (fun _ z => z) hL hF
    have main : vx_W p l e (headSpec [LW] (LR d h (hPay h1 1 6))).room s m ((([.ref x, .int p0, .int p1, .ref o] : List Value).map (vR ρ)).toArray) below meth c T'.heap ([] ++ L) (0 + (hC h1 - hC h + 1)) (0 + (hS h1 - hS h + 6)) (MQ below (xPost D cA ρ h s.heap.size (some (.int 1)) (hPay h1 1 6)) ((([.ref x, .int p0, .int p1, .ref o] : List Value).map (vR ρ)).toArray) s (hC (hPay h1 1 6) - hC h) (hS (hPay h1 1 6) - hS h) (va_A (wsR ρ cA h) s.heap.size)) (F0 m 5 lsA [.int 0, .ref (ρ o)]) q := by
      refine vx_catch hown [] ⟨0, 10, 13, 13⟩ [] htab (fun z hz => nomatch hz) (by decide) (by decide) (hEx.use exLk.2.2.2 _) (hEx.use exLk.2.2.1 _) (by rw [q1]; exact hce) hcv hcl ?_
      refine lv_astore B.exec B.bytes dL_clause_13 lv1.has (by decide) rfl (fun ls2 hl2 => ?_)
      refine lv_iconst (v := 1) B.exec B.bytes dL_clause_15 (by decide) ?_
      rw [e1, e2]
      exact W.iret B.exec B.bytes B.returns (fun t' ht' _ => ⟨⟨ρ', rfl, (fun y hy => by cases hy; exact Or.inl ⟨1, rfl⟩), hg, hw1, by rw [ht', q1]; exact hP1, hD1⟩, k3.F ht'⟩) k3.2.2 dL_clause_16 B.notSynchronized
    obtain ⟨t2, a1, b1⟩ := main T' rfl X'
    exact ⟨t2, st.trans a1, b1⟩
set_option maxHeartbeats 1000000 in
theorem c_LB (l : Launch) {d x b o : Nat} {p0 p1 r v : Int32} {h h1 h2 : Hp} (hw : WF h) (ho : o < hZ h) (hkx : hK h x = 11) (hrb : hR h x 6 = some b) (hkb : hK h b = 1) (M : xCon l d 191 [.ref b, .int p0, .int p1] h (some (.int r)) h1) (hr : ¬ r = 0) (hm : le3 h h1) (hkx1 : hK h1 x = 11) (hrb1 : hR h1 x 6 = some b) (hkb1 : hK h1 b = 1) (M2 : xCon l d 192 [.ref b, .int p0, .int p1] h1 (some (.int v)) h2) (hmm : le3 h1 h2) (hko : hK h2 o = KJ) (hno : 0 < hN h2 o) (D : va_G) (cA : Nat → ClassId) (ρ : Nat → Nat) (sz : Nat) :
    Met l yL_clause [LW] (LR d h (sL h2 o 0 v.toInt64)) (va_Pc (([.ref x, .int p0, .int p1, .ref o] : List Value).map (vR ρ)) (ClP D cA ρ h sz)) (xPost D cA ρ h sz (some (.int 0)) (sL h2 o 0 v.toInt64)) (hC (sL h2 o 0 v.toInt64) - hC h) (hS (sL h2 o 0 v.toInt64) - hS h) (va_A (wsR ρ cA h) sz) := by
  have hm1 := hm.1
  have hm2 := hm.2.1
  have hm3 := hmm.1
  have hm4 := hmm.2.1
  refine va_MetW (cc := cL_clause) (maxL := 5) (ret := some .int) (hh := [(0, 10, 13, 13)]) (ws' := []) (by decide) rfl ?_
  intro p e s m args below meth c s₁ B hml hv
  obtain ⟨rfl, ⟨hsz, hP, hK0, hD0, hI, hAO, hStr⟩, hEx, hzU, hzN⟩ := hv
  subst hsz
  have hown : s.vm.findClass RL = some m.cls := findClass_of_methodNamed B.named
  have hA : ∀ q, s.heap.size ≤ q → va_A (wsR ρ cA h) s.heap.size q := fun q z => Or.inr z
  have X : xCtx p (headSpec [LW] (LR d h (sL h2 o 0 v.toInt64))).room s m meth c 12 5 false cL_clause (va_A (wsR ρ cA h) s.heap.size) D cA ρ h (sL h2 o 0 v.toInt64) none := ⟨B.exec, B.bytes, hml, hown, hI, hK0, hA, (fun z => by cases z), ⟨by show hC h2 ≤ hC h + (hC h2 - hC h); omega, by show hS h2 ≤ hS h + (hS h2 - hS h); omega⟩, hStr, fun q hq => by cases hq⟩
  obtain ⟨lv1, lv2⟩ := linit_lv (ρ := ρ) (vs := [.ref x, .int p0, .int p1, .ref o]) (nL := 5) (Nat.le_of_ble_eq_true rfl)
  rw [lg_entry_eq]
  generalize (lg_sl (([.ref x, .int p0, .int p1, .ref o] : List Value).map (vR ρ)) ++ List.replicate (5 - (lg_sl (([.ref x, .int p0, .int p1, .ref o] : List Value).map (vR ρ))).length) Slot.unset).toArray = lsA at lv1 ⊢
  have hxl : x < hZ h := kd_lt hw (by omega)
  have hOK : ∀ v ∈ ([.ref x, .int p0, .int p1, .ref o] : List Value), vOK h v := by
    intro v hv
    rcases List.mem_cons.mp hv with rfl | hv
    · exact vOK_ref (Or.inl hxl)
    · rcases List.mem_cons.mp hv with rfl | hv
      · exact vOK_int _
      · rcases List.mem_cons.mp hv with rfl | hv
        · exact vOK_int _
        · rw [List.mem_singleton.mp hv]; exact vOK_ref (Or.inl ho)
  have S : zSt s 5 (va_A (wsR ρ cA h) s.heap.size) D cA ρ h (sL h2 o 0 v.toInt64) ρ s.heap [] 0 0 lsA (linit 5 [.ref x, .int p0, .int p1, .ref o]) [] h :=
    ⟨lv1, hw, (fun _ z => by cases z), fun i v hv => hOK v (lv2 i v hv), hP, hD0.self, va_S.rf, ⟨fun _ _ => rfl, Nat.le_refl _⟩, rfl, rfl⟩
  refine lv_aload_n B.exec B.bytes dL_clause_0 rfl (lv1.2.2.2 3 (.ref o) rfl) ?_
  refine lv_iconst (v := 0) B.exec B.bytes dL_clause_1 (by decide) ?_
  refine lv_aload_n B.exec B.bytes dL_clause_2 rfl (lv1.2.2.2 0 (.ref x) rfl) ?_
  refine lv_iload_n B.exec B.bytes dL_clause_3 rfl (lv1.2.2.2 1 (.int p0) rfl) ?_
  refine lv_iload_n B.exec B.bytes dL_clause_4 rfl (lv1.2.2.2 2 (.int p1) rfl) ?_
  have hrec : ∃ cell : Cell, s.heap[ρ x]? = some cell ∧ cell.vm.isStatics = false ∧ s.vm.findClass RX10 = some cell.cls := va_recv hK0 hP (xcl_at (ci := 10) (by decide)) (ws_c hw (by omega) (cell_obj (by decide) hkx))
  refine my_call (va_runV (As := [.int p0, .int p1]) (rest := [.int 0, .ref (ρ o)]) ⟨B.exec, B.bytes, hml, hown, G_hts hI _⟩ (c_X10B l hw hkx hrb hkb M hr hm hkx1 hrb1 hkb1 M2 hmm D cA ρ s.heap.size) ⟨callB_of 2 (G_hts hI _) (clg (i := 0) rfl) rfl rfl rfl (clq hI (i := 4) rfl _) (clq hI (i := 1) rfl _) (by decide +kernel) ⟨by show d + 10 + 1 ≤ d + 12; omega, by show 8 + (3 + 11) + 50 * (d + 4) ≤ 50 * (d + 6); omega⟩, clq hI (i := 2) rfl _, clq hI (i := 3) rfl _⟩ ⟨ClP.calling, hrec, pre_cl X hAO S hEx hzU hzN⟩ rfl rfl lv1.1 rfl (lv_room (Nat.le_of_ble_eq_true rfl)) dL_clause_5 ⟨by show 0 + (hC h2 - hC h) ≤ hC h2 - hC h; omega, by show 0 + (hS h2 - hS h) ≤ hS h2 - hS h; omega⟩) va_S.rf (fun _ _ z => z) (fun _ z => z) (fun _ _ _ hp => hp.2) (fun vv st0 t H1 locs1 _ ht hp hS1 => ?_)
  obtain ⟨⟨ρ', q1, -, hg, hw1, hP1, hD1⟩, -⟩ := hp
  cases q1
  rw [ht] at hP1
  have ho' : ρ' o = ρ o := hg o (Or.inl ho)
  have hcell := ws_c (ρ := ρ') (cA := cA) hw1 (a := o) (by rw [hko]; decide) (cell_j hko)
  rw [ho'] at hcell
  refine lv_i2l B.exec B.bytes dL_clause_8 rfl ?_
  refine va_last B.exec B.bytes hK0 hP1 hD1 hS1 o 3 hcell rfl (by rintro (z | z); exact absurd z (by decide); exact absurd (Nat.lt_of_lt_of_le hno z) (Nat.lt_irrefl 0)) dL_clause_9 (fun H2 locs2 hP2 hD2 hS2 => ?_)
  refine lv_goto B.exec B.bytes dL_clause_10 (tgt := 17) rfl ?_
  refine lv_iconst (v := 0) B.exec B.bytes dL_clause_17 (by decide) ?_
  have e1 : hC (sL h2 o 0 v.toInt64) - hC h = 0 + (hC h2 - hC h) := by show hC h2 - hC h = _; omega
  have e2 : hS (sL h2 o 0 v.toInt64) - hS h = 0 + (hS h2 - hS h) := by show hS h2 - hS h = _; omega
  have e3 : wsR ρ' cA (sL h2 o 0 v.toInt64) = _ := ws_sL_arr (kd_lt hw1 (by rw [hko]; decide)) hko
  rw [ho'] at e3
  rw [e1, e2]
  exact W.iret B.exec B.bytes B.returns (fun t' ht' _ => ⟨⟨ρ', rfl, (fun y hy => by cases hy; exact Or.inl ⟨0, rfl⟩), hg, hw1.sL, by rw [ht', e3]; exact hP2, by rw [e3]; exact hD2⟩, hS2.F ht'⟩) hS2.2.2 dL_clause_18 B.notSynchronized
theorem c_L (l : Launch) (hl : l.stackTraces = false) {cf : Nat → List Value → Hp → Option XR} (hcf : cfMono cf) {d : Nat} (hcs : ∀ (k : Nat) (vs : List Value) (h : Hp) (v : Option Value) (h1 : Hp), cf k vs h = some (v, h1) → k = 191 ∨ k = 192 → xCon l d k vs h v h1) {vs : List Value} {h h' : Hp} {v : Option Value} (hr : pClause cf 191 192 vs h = some (v, h')) (hw : WF h) (D : va_G) (cA : Nat → ClassId) (ρ : Nat → Nat) (sz : Nat) :
    Met l yL_clause [LW] (LR d h h') (va_Pc (vs.map (vR ρ)) (ClP D cA ρ h sz)) (xPost D cA ρ h sz v h') (hC h' - hC h) (hS h' - hS h) (va_A (wsR ρ cA h) sz) := by
  unfold pClause at hr
  split at hr
  · rename_i x p0 p1 o
    split at hr
    · rename_i c1
      split at hr
      · rename_i b hrb
        split at hr
        · rename_i hkb
          split at hr
          · rename_i r h1 hc1
            have m1 := hcf _ _ _ _ _ hc1
            split at hr
            · rename_i hr0
              cases hr
              subst hr0
              exact c_LA l hl hw (kd_lt hw (by rw [c1.2.1]; decide)) c1.1 hrb hkb (hcs _ _ _ _ _ hc1 (Or.inl rfl)) m1 D cA ρ sz
            · rename_i hr0
              split at hr
              · rename_i c2
                split at hr
                · rename_i w h2 hc2
                  split at hr
                  · rename_i c3
                    cases hr
                    exact c_LB l hw (kd_lt hw (by rw [c1.2.1]; decide)) c1.1 hrb hkb (hcs _ _ _ _ _ hc1 (Or.inl rfl)) hr0 m1 c2.1 c2.2.1 c2.2.2.1 (hcs _ _ _ _ _ hc2 (Or.inr rfl)) (hcf _ _ _ _ _ hc2) c3.1 c3.2 D cA ρ sz
                  · cases hr
                · cases hr
              · cases hr
          · cases hr
        · cases hr
      · cases hr
    · cases hr
  · cases hr

