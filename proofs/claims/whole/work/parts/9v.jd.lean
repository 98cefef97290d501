/-! The JDK's String.length and charAt over the two constants of the model; isAmong. -/
def RJ0 : String := "java/lang/String"
def RJ1 : String := "java/lang/StringLatin1"
def RJ3 : String := "jdk/internal/util/Preconditions"
abbrev cJ0_length_8abf5 : ByteArray := prog_21_method_54_code
def yJ0_length_8abf5 : MethodName := ⟨RJ0, "length", "()I"⟩
abbrev cJ0_charAt_5068e : ByteArray := prog_21_method_56_code
def yJ0_charAt_5068e : MethodName := ⟨RJ0, "charAt", "(I)C"⟩
abbrev cJ0_coder_7d493 : ByteArray := prog_21_method_152_code
def yJ0_coder_7d493 : MethodName := ⟨RJ0, "coder", "()B"⟩
abbrev cJ0_isLatin1_aae02 : ByteArray := prog_21_method_154_code
def yJ0_isLatin1_aae02 : MethodName := ⟨RJ0, "isLatin1", "()Z"⟩
abbrev cJ0_checkIndex_df160 : ByteArray := prog_21_method_155_code
def yJ0_checkIndex_df160 : MethodName := ⟨RJ0, "checkIndex", "(II)V"⟩
abbrev cJ1_charAt_3b067 : ByteArray := prog_22_method_2_code
def yJ1_charAt_3b067 : MethodName := ⟨RJ1, "charAt", "([BI)C"⟩
abbrev cJ3_checkIndex_8e157 : ByteArray := prog_28_method_11_code
def yJ3_checkIndex_8e157 : MethodName := ⟨RJ3, "checkIndex", "(IILjava/util/function/BiFunction;)I"⟩
theorem dJ0_length_8abf5_0 : decode cJ0_length_8abf5 0 = .ok (.aload_n 0, 1) := by decide +kernel
theorem dJ0_length_8abf5_1 : decode cJ0_length_8abf5 1 = .ok (.getfield 9, 3) := by decide +kernel
theorem dJ0_length_8abf5_4 : decode cJ0_length_8abf5 4 = .ok (.arraylength, 1) := by decide +kernel
theorem dJ0_length_8abf5_5 : decode cJ0_length_8abf5 5 = .ok (.aload_n 0, 1) := by decide +kernel
theorem dJ0_length_8abf5_6 : decode cJ0_length_8abf5 6 = .ok (.invokevirtual 335, 3) := by decide +kernel
theorem dJ0_length_8abf5_9 : decode cJ0_length_8abf5 9 = .ok (.ishr, 1) := by decide +kernel
theorem dJ0_length_8abf5_10 : decode cJ0_length_8abf5 10 = .ok (.ireturn, 1) := by decide +kernel
theorem dJ0_charAt_5068e_0 : decode cJ0_charAt_5068e 0 = .ok (.aload_n 0, 1) := by decide +kernel
theorem dJ0_charAt_5068e_1 : decode cJ0_charAt_5068e 1 = .ok (.invokevirtual 492, 3) := by decide +kernel
theorem dJ0_charAt_5068e_4 : decode cJ0_charAt_5068e 4 = .ok (.ifCond .eq 12, 3) := by decide +kernel
theorem dJ0_charAt_5068e_7 : decode cJ0_charAt_5068e 7 = .ok (.aload_n 0, 1) := by decide +kernel
theorem dJ0_charAt_5068e_8 : decode cJ0_charAt_5068e 8 = .ok (.getfield 9, 3) := by decide +kernel
theorem dJ0_charAt_5068e_11 : decode cJ0_charAt_5068e 11 = .ok (.iload_n 1, 1) := by decide +kernel
theorem dJ0_charAt_5068e_12 : decode cJ0_charAt_5068e 12 = .ok (.invokestatic 495, 3) := by decide +kernel
theorem dJ0_charAt_5068e_15 : decode cJ0_charAt_5068e 15 = .ok (.ireturn, 1) := by decide +kernel
theorem dJ0_charAt_5068e_16 : decode cJ0_charAt_5068e 16 = .ok (.aload_n 0, 1) := by decide +kernel
theorem dJ0_charAt_5068e_17 : decode cJ0_charAt_5068e 17 = .ok (.getfield 9, 3) := by decide +kernel
theorem dJ0_charAt_5068e_20 : decode cJ0_charAt_5068e 20 = .ok (.iload_n 1, 1) := by decide +kernel
theorem dJ0_charAt_5068e_21 : decode cJ0_charAt_5068e 21 = .ok (.invokestatic 498, 3) := by decide +kernel
theorem dJ0_charAt_5068e_24 : decode cJ0_charAt_5068e 24 = .ok (.ireturn, 1) := by decide +kernel
theorem dJ0_coder_7d493_0 : decode cJ0_coder_7d493 0 = .ok (.getstatic 38, 3) := by decide +kernel
theorem dJ0_coder_7d493_3 : decode cJ0_coder_7d493 3 = .ok (.ifCond .eq 10, 3) := by decide +kernel
theorem dJ0_coder_7d493_6 : decode cJ0_coder_7d493 6 = .ok (.aload_n 0, 1) := by decide +kernel
theorem dJ0_coder_7d493_7 : decode cJ0_coder_7d493 7 = .ok (.getfield 15, 3) := by decide +kernel
theorem dJ0_coder_7d493_10 : decode cJ0_coder_7d493 10 = .ok (.goto 4, 3) := by decide +kernel
theorem dJ0_coder_7d493_13 : decode cJ0_coder_7d493 13 = .ok (.iconst 1, 1) := by decide +kernel
theorem dJ0_coder_7d493_14 : decode cJ0_coder_7d493 14 = .ok (.ireturn, 1) := by decide +kernel
theorem dJ0_isLatin1_aae02_0 : decode cJ0_isLatin1_aae02 0 = .ok (.getstatic 38, 3) := by decide +kernel
theorem dJ0_isLatin1_aae02_3 : decode cJ0_isLatin1_aae02 3 = .ok (.ifCond .eq 14, 3) := by decide +kernel
theorem dJ0_isLatin1_aae02_6 : decode cJ0_isLatin1_aae02 6 = .ok (.aload_n 0, 1) := by decide +kernel
theorem dJ0_isLatin1_aae02_7 : decode cJ0_isLatin1_aae02 7 = .ok (.getfield 15, 3) := by decide +kernel
theorem dJ0_isLatin1_aae02_10 : decode cJ0_isLatin1_aae02 10 = .ok (.ifCond .ne 7, 3) := by decide +kernel
theorem dJ0_isLatin1_aae02_13 : decode cJ0_isLatin1_aae02 13 = .ok (.iconst 1, 1) := by decide +kernel
theorem dJ0_isLatin1_aae02_14 : decode cJ0_isLatin1_aae02 14 = .ok (.goto 4, 3) := by decide +kernel
theorem dJ0_isLatin1_aae02_17 : decode cJ0_isLatin1_aae02 17 = .ok (.iconst 0, 1) := by decide +kernel
theorem dJ0_isLatin1_aae02_18 : decode cJ0_isLatin1_aae02 18 = .ok (.ireturn, 1) := by decide +kernel
theorem dJ0_checkIndex_df160_0 : decode cJ0_checkIndex_df160 0 = .ok (.iload_n 0, 1) := by decide +kernel
theorem dJ0_checkIndex_df160_1 : decode cJ0_checkIndex_df160 1 = .ok (.iload_n 1, 1) := by decide +kernel
theorem dJ0_checkIndex_df160_2 : decode cJ0_checkIndex_df160 2 = .ok (.getstatic 1053, 3) := by decide +kernel
theorem dJ0_checkIndex_df160_5 : decode cJ0_checkIndex_df160 5 = .ok (.invokestatic 1059, 3) := by decide +kernel
theorem dJ0_checkIndex_df160_8 : decode cJ0_checkIndex_df160 8 = .ok (.pop, 1) := by decide +kernel
theorem dJ0_checkIndex_df160_9 : decode cJ0_checkIndex_df160 9 = .ok (.return_, 1) := by decide +kernel
theorem dJ1_charAt_3b067_0 : decode cJ1_charAt_3b067 0 = .ok (.iload_n 1, 1) := by decide +kernel
theorem dJ1_charAt_3b067_1 : decode cJ1_charAt_3b067 1 = .ok (.aload_n 0, 1) := by decide +kernel
theorem dJ1_charAt_3b067_2 : decode cJ1_charAt_3b067 2 = .ok (.arraylength, 1) := by decide +kernel
theorem dJ1_charAt_3b067_3 : decode cJ1_charAt_3b067 3 = .ok (.invokestatic 9, 3) := by decide +kernel
theorem dJ1_charAt_3b067_6 : decode cJ1_charAt_3b067 6 = .ok (.aload_n 0, 1) := by decide +kernel
theorem dJ1_charAt_3b067_7 : decode cJ1_charAt_3b067 7 = .ok (.iload_n 1, 1) := by decide +kernel
theorem dJ1_charAt_3b067_8 : decode cJ1_charAt_3b067 8 = .ok (.baload, 1) := by decide +kernel
theorem dJ1_charAt_3b067_9 : decode cJ1_charAt_3b067 9 = .ok (.sipush 255, 3) := by decide +kernel
theorem dJ1_charAt_3b067_12 : decode cJ1_charAt_3b067 12 = .ok (.iand, 1) := by decide +kernel
theorem dJ1_charAt_3b067_13 : decode cJ1_charAt_3b067 13 = .ok (.i2c, 1) := by decide +kernel
theorem dJ1_charAt_3b067_14 : decode cJ1_charAt_3b067 14 = .ok (.ireturn, 1) := by decide +kernel
theorem dJ3_checkIndex_8e157_0 : decode cJ3_checkIndex_8e157 0 = .ok (.iload_n 0, 1) := by decide +kernel
theorem dJ3_checkIndex_8e157_1 : decode cJ3_checkIndex_8e157 1 = .ok (.ifCond .lt 8, 3) := by decide +kernel
theorem dJ3_checkIndex_8e157_4 : decode cJ3_checkIndex_8e157 4 = .ok (.iload_n 0, 1) := by decide +kernel
theorem dJ3_checkIndex_8e157_5 : decode cJ3_checkIndex_8e157 5 = .ok (.iload_n 1, 1) := by decide +kernel
theorem dJ3_checkIndex_8e157_6 : decode cJ3_checkIndex_8e157 6 = .ok (.if_icmp .lt 10, 3) := by decide +kernel
theorem dJ3_checkIndex_8e157_9 : decode cJ3_checkIndex_8e157 9 = .ok (.aload_n 2, 1) := by decide +kernel
theorem dJ3_checkIndex_8e157_10 : decode cJ3_checkIndex_8e157 10 = .ok (.iload_n 0, 1) := by decide +kernel
theorem dJ3_checkIndex_8e157_11 : decode cJ3_checkIndex_8e157 11 = .ok (.iload_n 1, 1) := by decide +kernel
theorem dJ3_checkIndex_8e157_12 : decode cJ3_checkIndex_8e157 12 = .ok (.invokestatic 95, 3) := by decide +kernel
theorem dJ3_checkIndex_8e157_15 : decode cJ3_checkIndex_8e157 15 = .ok (.athrow, 1) := by decide +kernel
theorem dJ3_checkIndex_8e157_16 : decode cJ3_checkIndex_8e157 16 = .ok (.iload_n 0, 1) := by decide +kernel
theorem dJ3_checkIndex_8e157_17 : decode cJ3_checkIndex_8e157 17 = .ok (.ireturn, 1) := by decide +kernel
theorem dX11_isAmong_0 : decode cX11_isAmong 0 = .ok (.iconst 0, 1) := by decide +kernel
theorem dX11_isAmong_1 : decode cX11_isAmong 1 = .ok (.istore_n 2, 1) := by decide +kernel
theorem dX11_isAmong_2 : decode cX11_isAmong 2 = .ok (.iload_n 2, 1) := by decide +kernel
theorem dX11_isAmong_3 : decode cX11_isAmong 3 = .ok (.aload_n 0, 1) := by decide +kernel
theorem dX11_isAmong_4 : decode cX11_isAmong 4 = .ok (.invokevirtual 94, 3) := by decide +kernel
theorem dX11_isAmong_7 : decode cX11_isAmong 7 = .ok (.if_icmp .ge 20, 3) := by decide +kernel
theorem dX11_isAmong_10 : decode cX11_isAmong 10 = .ok (.aload_n 0, 1) := by decide +kernel
theorem dX11_isAmong_11 : decode cX11_isAmong 11 = .ok (.iload_n 2, 1) := by decide +kernel
theorem dX11_isAmong_12 : decode cX11_isAmong 12 = .ok (.invokevirtual 100, 3) := by decide +kernel
theorem dX11_isAmong_15 : decode cX11_isAmong 15 = .ok (.iload_n 1, 1) := by decide +kernel
theorem dX11_isAmong_16 : decode cX11_isAmong 16 = .ok (.if_icmp .ne 5, 3) := by decide +kernel
theorem dX11_isAmong_19 : decode cX11_isAmong 19 = .ok (.iconst 1, 1) := by decide +kernel
theorem dX11_isAmong_20 : decode cX11_isAmong 20 = .ok (.ireturn, 1) := by decide +kernel
theorem dX11_isAmong_21 : decode cX11_isAmong 21 = .ok (.iinc 2 1, 3) := by decide +kernel
theorem dX11_isAmong_24 : decode cX11_isAmong 24 = .ok (.goto (-22), 3) := by decide +kernel
theorem dX11_isAmong_27 : decode cX11_isAmong 27 = .ok (.iconst 0, 1) := by decide +kernel
theorem dX11_isAmong_28 : decode cX11_isAmong 28 = .ok (.ireturn, 1) := by decide +kernel
def jws : List Jvm.Cond := [.methodLink RX11 94 yJ0_length_8abf5, .instanceMethod yJ0_length_8abf5, .selects RJ0 yJ0_length_8abf5 yJ0_length_8abf5, .initialized RJ0, .code yJ0_length_8abf5 cJ0_length_8abf5 1 (some .int), .fieldLink RJ0 9 "java/lang/String" "value" "[B", .methodLink RJ0 335 yJ0_coder_7d493, .instanceMethod yJ0_coder_7d493, .selects RJ0 yJ0_coder_7d493 yJ0_coder_7d493, .code yJ0_coder_7d493 cJ0_coder_7d493 1 (some .byte), .fieldLink RJ0 38 "java/lang/String" "COMPACT_STRINGS" "Z", .fieldLink RJ0 15 "java/lang/String" "coder" "B", .methodLink RX11 100 yJ0_charAt_5068e, .instanceMethod yJ0_charAt_5068e, .selects RJ0 yJ0_charAt_5068e yJ0_charAt_5068e, .code yJ0_charAt_5068e cJ0_charAt_5068e 2 (some .char), .methodLink RJ0 492 yJ0_isLatin1_aae02, .instanceMethod yJ0_isLatin1_aae02, .selects RJ0 yJ0_isLatin1_aae02 yJ0_isLatin1_aae02, .code yJ0_isLatin1_aae02 cJ0_isLatin1_aae02 1 (some .boolean), .methodLink RJ0 495 yJ1_charAt_3b067, .static yJ1_charAt_3b067, .initialized RJ1, .code yJ1_charAt_3b067 cJ1_charAt_3b067 2 (some .char), .methodLink RJ1 9 yJ0_checkIndex_df160, .static yJ0_checkIndex_df160, .code yJ0_checkIndex_df160 cJ0_checkIndex_df160 2 none, .fieldLink RJ0 1053 "jdk/internal/util/Preconditions" "SIOOBE_FORMATTER" "Ljava/util/function/BiFunction;", .methodLink RJ0 1059 yJ3_checkIndex_8e157, .static yJ3_checkIndex_8e157, .initialized RJ3, .code yJ3_checkIndex_8e157 cJ3_checkIndex_8e157 3 (some .int), .code yX11_isAmong cX11_isAmong 3 (some .boolean), .static yX11_isAmong, .initialized RX11]
set_option maxRecDepth 100000 in
theorem jws_ok : ∀ w ∈ jws, w ∈ tables_1 ∧ goodWord w = true := by decide +kernel
theorem jq {s : State} (hI : Inv s) {i : Nat} {w : Jvm.Cond} (h : jws[i]? = some w) (args : Array Value) : w.before args s = true :=
  Inv.use hI (in_tbl (jws_ok w (List.mem_of_getElem? h)).1) (jws_ok w (List.mem_of_getElem? h)).2 args
theorem jg {i : Nat} {w : Jvm.Cond} (h : jws[i]? = some w) : GoodIn G [w] := fun x hx => by
  rw [List.mem_singleton.mp hx]
  exact ⟨G_in (in_tbl (jws_ok w (List.mem_of_getElem? h)).1) (jws_ok w (List.mem_of_getElem? h)).2, good_of_word (jws_ok w (List.mem_of_getElem? h)).2⟩
def jS (A : Nat → Prop) (q t L : Nat) (f : Nat → Int32) (U : State) : Prop := va_O "java/lang/String" q A U U.heap ∧ va_OF "java/lang/String" "coder" "B" (.int 0) q A U U.heap ∧ va_OF "java/lang/String" "value" "[B" (.ref t) q A U U.heap ∧ va_T .byte t L (fun j => .int (f j)) A U U.heap
def jB (A : Nat → Prop) (sz q t L : Nat) (f : Nat → Int32) : State → Prop := fun U => U.heap.size = sz ∧ Inv U ∧ xZst A U ∧ jS A q t L f U
def jQ (A : Nat → Prop) (v : Option Value) : Array Value → State → Outcome → State → Prop := fun _ st oc t => oc = .returned v ∧ va_F A st t
def jR (d : Nat) : Room := { frames := d, cells := 0, slots := 0, locals := 50 * d }
theorem jB.calling {A : Nat → Prop} {sz q t L : Nat} {f : Nat → Int32} {av : List Value} : FrameBlind (va_Pc av (jB A sz q t L f)) := by
  intro a U g mk ⟨e, h1, h4, ⟨z5, z6, z7, z8⟩, y1, y2, y3, y4⟩
  exact ⟨e, h1, Inv.same (u := U) rfl h4, ⟨va_Z.moved (u := U) (Vm.Alike.refl U.vm) z5, va_Zq.moved (u := U) (Vm.Alike.refl U.vm) z6, va_Zq.moved (u := U) (Vm.Alike.refl U.vm) z7, va_Zq.moved (u := U) (Vm.Alike.refl U.vm) z8⟩, va_O.moved (u := U) (Vm.Alike.refl U.vm) y1, va_OF.moved (u := U) (Vm.Alike.refl U.vm) y2, va_OF.moved (u := U) (Vm.Alike.refl U.vm) y3, va_T.moved (u := U) (Vm.Alike.refl U.vm) y4⟩
theorem jS.at {A : Nat → Prop} {q t L : Nat} {f : Nat → Int32} {s U : State} {H : Heap} {locs : List Loc} (h : jS A q t L f s) (hS : va_S A s.heap H locs) (hU : U.heap = H) (hW : s.WarmedH U.vm) : jS A q t L f U := by
  obtain ⟨y1, y2, y3, y4⟩ := h
  refine ⟨?_, ?_, ?_, ?_⟩
  · rw [hU]; exact va_O.moved hW.alike (y1.kept hS.2.1)
  · rw [hU]; exact va_OF.moved hW.alike (y2.kept hS.2.1)
  · rw [hU]; exact va_OF.moved hW.alike (y3.kept hS.2.1)
  · rw [hU]; exact va_T.moved hW.alike (y4.kept hS.2.1)
theorem xZst.at {A : Nat → Prop} {s U : State} {H : Heap} {locs : List Loc} (h : xZst A s) (hS : va_S A s.heap H locs) (hU : U.heap = H) (hW : s.WarmedH U.vm) : xZst A U := by
  obtain ⟨z5, z6, z7, z8⟩ := h
  refine ⟨?_, ?_, ?_, ?_⟩
  · rw [hU]; exact va_Z.moved hW.alike (z5.kept hS.2.1)
  · rw [hU]; exact va_Zq.moved hW.alike (z6.kept hS.2.1)
  · rw [hU]; exact va_Zq.moved hW.alike (z7.kept hS.2.1)
  · rw [hU]; exact va_Zq.moved hW.alike (z8.kept hS.2.1)
theorem jB.at {A : Nat → Prop} {q t L : Nat} {f : Nat → Int32} {s U : State} {H : Heap} {locs : List Loc} (hI : Inv s) (hZ : xZst A s) (hE : jS A q t L f s) (hS : va_S A s.heap H locs) (hU : U.heap = H) (hW : s.WarmedH U.vm) : jB A H.size q t L f U :=
  ⟨by rw [hU], Inv.warm hW hI, hZ.at hS hU hW, hE.at hS hU hW⟩
theorem jS.recv {A : Nat → Prop} {q t L : Nat} {f : Nat → Int32} {s : State} {H : Heap} {locs : List Loc} (h : jS A q t L f s) (hS : va_S A s.heap H locs) : ∃ cell : Cell, H[q]? = some cell ∧ cell.vm.isStatics = false ∧ s.vm.findClass "java/lang/String" = some cell.cls := by
  obtain ⟨cell, h1, h2, h3, -⟩ := h.1.kept hS.2.1
  exact ⟨cell, h1, h2, h3⟩
theorem c_coder (l : Launch) {A : Nat → Prop} {sz q t L : Nat} {f : Nat → Int32}  : Met l yJ0_coder_7d493 [.code yJ0_coder_7d493 cJ0_coder_7d493 1 (some .byte)] (jR 0) (va_Pc [.ref q] (jB A sz q t L f)) (jQ A (some (.int 0))) 0 0 A := by
  refine Met.ofW (cc := cJ0_coder_7d493) (maxL := 1) (ret := (some .byte)) (ws' := []) (by decide) rfl ?_
  intro p e s m args below meth c s₁ B hml hv
  obtain ⟨rfl, rfl, hI, hZ, hE⟩ := hv
  have hx := B.exec
  have hb := B.bytes
  have hr := B.returns
  have hown : s.vm.findClass RJ0 = some m.cls := findClass_of_methodNamed B.named
  have hlocks := B.notSynchronized
  have hS : va_S A s.heap s.heap [] := va_S.rf
  have hl := lv_entry ([.ref q]) (n := 1) (Nat.le_of_ble_eq_true rfl)
  rw [lg_entry_eq]
  generalize (lg_sl ([.ref q]) ++ List.replicate (1 - (lg_sl ([.ref q])).length) Slot.unset).toArray = ls at hl ⊢
  have hl : lv_has ls 1 [(0, .ref q)] := hl
  refine va_gets hx hb hZ.1 hS hown (jq hI (i := 10) rfl _) (fun _ h => h) dJ0_coder_7d493_0 ?_
  refine lv_if_eq hx hb dJ0_coder_7d493_3 (tgt := 13) rfl (fun z => absurd z (by decide)) (fun _ => ?_)
  refine lv_aload_n hx hb dJ0_coder_7d493_6 rfl (lv_at hl 0 rfl) ?_
  refine vk_getf hx hb hE.2.1 hS hown (jq hI (i := 11) rfl _) (fun _ h => h) dJ0_coder_7d493_7 ?_
  refine lv_goto hx hb dJ0_coder_7d493_10 (tgt := 14) rfl ?_
  exact W.zret hx hb hr rfl (fun t ht _ => ⟨rfl, hS.F ht⟩) hS.2.2 dJ0_coder_7d493_14
theorem c_isLatin1 (l : Launch) {A : Nat → Prop} {sz q t L : Nat} {f : Nat → Int32}  : Met l yJ0_isLatin1_aae02 [.code yJ0_isLatin1_aae02 cJ0_isLatin1_aae02 1 (some .boolean)] (jR 0) (va_Pc [.ref q] (jB A sz q t L f)) (jQ A (some (.int 1))) 0 0 A := by
  refine Met.ofW (cc := cJ0_isLatin1_aae02) (maxL := 1) (ret := (some .boolean)) (ws' := []) (by decide) rfl ?_
  intro p e s m args below meth c s₁ B hml hv
  obtain ⟨rfl, rfl, hI, hZ, hE⟩ := hv
  have hx := B.exec
  have hb := B.bytes
  have hr := B.returns
  have hown : s.vm.findClass RJ0 = some m.cls := findClass_of_methodNamed B.named
  have hlocks := B.notSynchronized
  have hS : va_S A s.heap s.heap [] := va_S.rf
  have hl := lv_entry ([.ref q]) (n := 1) (Nat.le_of_ble_eq_true rfl)
  rw [lg_entry_eq]
  generalize (lg_sl ([.ref q]) ++ List.replicate (1 - (lg_sl ([.ref q])).length) Slot.unset).toArray = ls at hl ⊢
  have hl : lv_has ls 1 [(0, .ref q)] := hl
  refine va_gets hx hb hZ.1 hS hown (jq hI (i := 10) rfl _) (fun _ h => h) dJ0_isLatin1_aae02_0 ?_
  refine lv_if_eq hx hb dJ0_isLatin1_aae02_3 (tgt := 17) rfl (fun z => absurd z (by decide)) (fun _ => ?_)
  refine lv_aload_n hx hb dJ0_isLatin1_aae02_6 rfl (lv_at hl 0 rfl) ?_
  refine vk_getf hx hb hE.2.1 hS hown (jq hI (i := 11) rfl _) (fun _ h => h) dJ0_isLatin1_aae02_7 ?_
  refine lv_if_ne hx hb dJ0_isLatin1_aae02_10 (tgt := 17) rfl (fun z => absurd rfl z) (fun _ => ?_)
  refine lv_iconst (v := 1) hx hb dJ0_isLatin1_aae02_13 (by decide) ?_
  refine lv_goto hx hb dJ0_isLatin1_aae02_14 (tgt := 18) rfl ?_
  exact W.zret hx hb hr rfl (fun t ht _ => ⟨rfl, hS.F ht⟩) hS.2.2 dJ0_isLatin1_aae02_18
theorem c_length (l : Launch) {A : Nat → Prop} {sz q t L : Nat} {f : Nat → Int32} (hv : (Int32.ofNat L) >>> ((0 : Int32) &&& 31) = Int32.ofNat L) : Met l yJ0_length_8abf5 [.code yJ0_length_8abf5 cJ0_length_8abf5 1 (some .int)] (jR 1) (va_Pc [.ref q] (jB A sz q t L f)) (jQ A (some (.int (Int32.ofNat L)))) 0 0 A := by
  refine Met.ofW (cc := cJ0_length_8abf5) (maxL := 1) (ret := (some .int)) (ws' := []) (by decide) rfl ?_
  intro p e s m args below meth c s₁ B hml hv
  obtain ⟨rfl, rfl, hI, hZ, hE⟩ := hv
  have hx := B.exec
  have hb := B.bytes
  have hr := B.returns
  have hown : s.vm.findClass RJ0 = some m.cls := findClass_of_methodNamed B.named
  have hlocks := B.notSynchronized
  have hS : va_S A s.heap s.heap [] := va_S.rf
  have hl := lv_entry ([.ref q]) (n := 1) (Nat.le_of_ble_eq_true rfl)
  rw [lg_entry_eq]
  generalize (lg_sl ([.ref q]) ++ List.replicate (1 - (lg_sl ([.ref q])).length) Slot.unset).toArray = ls at hl ⊢
  have hl : lv_has ls 1 [(0, .ref q)] := hl
  refine lv_aload_n hx hb dJ0_length_8abf5_0 rfl (lv_at hl 0 rfl) ?_
  refine vk_getf hx hb hE.2.2.1 hS hown (jq hI (i := 5) rfl _) (fun _ h => h) dJ0_length_8abf5_1 ?_
  refine va_tlen hx hb hE.2.2.2 hS rfl dJ0_length_8abf5_4 ?_
  refine lv_aload_n hx hb dJ0_length_8abf5_5 rfl (lv_at hl 0 rfl) ?_
  refine my_call (va_runV (As := []) (rest := [.int (Int32.ofNat L)]) ⟨hx, hb, hml, hown, G_hts hI _⟩ (c_coder l (A := A) (sz := s.heap.size) (q := q) (t := t) (L := L) (f := f)) ⟨callB_of 0 (G_hts hI _) (jg (i := 9) rfl) rfl rfl rfl (jq hI (i := 3) rfl _) (jq hI (i := 6) rfl _) (by decide +kernel) ⟨Nat.le_of_ble_eq_true rfl, Nat.le_of_ble_eq_true rfl⟩, (jq hI (i := 7) rfl _), (jq hI (i := 8) rfl _)⟩ ⟨jB.calling, hE.recv hS, fun U hU hW => ⟨rfl, jB.at hI hZ hE hS hU hW⟩⟩ rfl rfl hl.1 rfl (lv_room (Nat.le_of_ble_eq_true rfl)) dJ0_length_8abf5_6 ⟨Nat.zero_le _, Nat.zero_le _⟩) hS (fun _ _ h => h) (fun _ h => h) (fun _ _ _ hp => hp.2) (fun v st1 t1 H locs _ _ hp hS => ?_)
  cases hp.1
  refine lv_ishr hx hb dJ0_length_8abf5_9 ?_
  rw [hv]
  exact W.iret hx hb hr (fun t ht _ => ⟨rfl, hS.F ht⟩) hS.2.2 dJ0_length_8abf5_10
theorem c_preN (l : Launch) {A : Nat → Prop} {sz q t L : Nat} {f : Nat → Int32} {i n : Int32} (h0 : ¬ i < 0) (h1 : i < n) : Met l yJ3_checkIndex_8e157 [.code yJ3_checkIndex_8e157 cJ3_checkIndex_8e157 3 (some .int)] (jR 0) (va_Pc [.int i, .int n, .null] (jB A sz q t L f)) (jQ A (some (.int i))) 0 0 A := by
  refine Met.ofW (cc := cJ3_checkIndex_8e157) (maxL := 3) (ret := (some .int)) (ws' := []) (by decide) rfl ?_
  intro p e s m args below meth c s₁ B hml hv
  obtain ⟨rfl, rfl, hI, hZ, hE⟩ := hv
  have hx := B.exec
  have hb := B.bytes
  have hr := B.returns
  have hown : s.vm.findClass RJ3 = some m.cls := findClass_of_methodNamed B.named
  have hlocks := B.notSynchronized
  have hS : va_S A s.heap s.heap [] := va_S.rf
  have hl := lv_entry ([.int i, .int n, .null]) (n := 3) (Nat.le_of_ble_eq_true rfl)
  rw [lg_entry_eq]
  generalize (lg_sl ([.int i, .int n, .null]) ++ List.replicate (3 - (lg_sl ([.int i, .int n, .null])).length) Slot.unset).toArray = ls at hl ⊢
  have hl : lv_has ls 3 [(0, .int i), (1, .int n), (2, .null)] := hl
  refine lv_iload_n hx hb dJ3_checkIndex_8e157_0 rfl (lv_at hl 0 rfl) ?_
  refine lv_if_lt hx hb dJ3_checkIndex_8e157_1 (tgt := 9) rfl (fun z => absurd z h0) (fun _ => ?_)
  refine lv_iload_n hx hb dJ3_checkIndex_8e157_4 rfl (lv_at hl 0 rfl) ?_
  refine lv_iload_n hx hb dJ3_checkIndex_8e157_5 rfl (lv_at hl 1 rfl) ?_
  refine lv_icmp_lt hx hb dJ3_checkIndex_8e157_6 (tgt := 16) rfl (fun _ => ?_) (fun z => absurd h1 z)
  refine lv_iload_n hx hb dJ3_checkIndex_8e157_16 rfl (lv_at hl 0 rfl) ?_
  exact W.iret hx hb hr (fun t ht _ => ⟨rfl, hS.F ht⟩) hS.2.2 dJ3_checkIndex_8e157_17
theorem c_preR (l : Launch) {A : Nat → Prop} {sz q t L : Nat} {f : Nat → Int32} {w : Nat} {i n : Int32} (h0 : ¬ i < 0) (h1 : i < n) : Met l yJ3_checkIndex_8e157 [.code yJ3_checkIndex_8e157 cJ3_checkIndex_8e157 3 (some .int)] (jR 0) (va_Pc [.int i, .int n, .ref w] (jB A sz q t L f)) (jQ A (some (.int i))) 0 0 A := by
  refine Met.ofW (cc := cJ3_checkIndex_8e157) (maxL := 3) (ret := (some .int)) (ws' := []) (by decide) rfl ?_
  intro p e s m args below meth c s₁ B hml hv
  obtain ⟨rfl, rfl, hI, hZ, hE⟩ := hv
  have hx := B.exec
  have hb := B.bytes
  have hr := B.returns
  have hown : s.vm.findClass RJ3 = some m.cls := findClass_of_methodNamed B.named
  have hlocks := B.notSynchronized
  have hS : va_S A s.heap s.heap [] := va_S.rf
  have hl := lv_entry ([.int i, .int n, .ref w]) (n := 3) (Nat.le_of_ble_eq_true rfl)
  rw [lg_entry_eq]
  generalize (lg_sl ([.int i, .int n, .ref w]) ++ List.replicate (3 - (lg_sl ([.int i, .int n, .ref w])).length) Slot.unset).toArray = ls at hl ⊢
  have hl : lv_has ls 3 [(0, .int i), (1, .int n), (2, .ref w)] := hl
  refine lv_iload_n hx hb dJ3_checkIndex_8e157_0 rfl (lv_at hl 0 rfl) ?_
  refine lv_if_lt hx hb dJ3_checkIndex_8e157_1 (tgt := 9) rfl (fun z => absurd z h0) (fun _ => ?_)
  refine lv_iload_n hx hb dJ3_checkIndex_8e157_4 rfl (lv_at hl 0 rfl) ?_
  refine lv_iload_n hx hb dJ3_checkIndex_8e157_5 rfl (lv_at hl 1 rfl) ?_
  refine lv_icmp_lt hx hb dJ3_checkIndex_8e157_6 (tgt := 16) rfl (fun _ => ?_) (fun z => absurd h1 z)
  refine lv_iload_n hx hb dJ3_checkIndex_8e157_16 rfl (lv_at hl 0 rfl) ?_
  exact W.iret hx hb hr (fun t ht _ => ⟨rfl, hS.F ht⟩) hS.2.2 dJ3_checkIndex_8e157_17
theorem c_chk (l : Launch) {A : Nat → Prop} {sz q t L : Nat} {f : Nat → Int32} {i n : Int32} (h0 : ¬ i < 0) (h1 : i < n) : Met l yJ0_checkIndex_df160 [.code yJ0_checkIndex_df160 cJ0_checkIndex_df160 2 none] (jR 1) (va_Pc [.int i, .int n] (jB A sz q t L f)) (jQ A (none)) 0 0 A := by
  refine Met.ofW (cc := cJ0_checkIndex_df160) (maxL := 2) (ret := none) (ws' := []) (by decide) rfl ?_
  intro p e s m args below meth c s₁ B hml hv
  obtain ⟨rfl, rfl, hI, hZ, hE⟩ := hv
  have hx := B.exec
  have hb := B.bytes
  have hr := B.returns
  have hown : s.vm.findClass RJ0 = some m.cls := findClass_of_methodNamed B.named
  have hlocks := B.notSynchronized
  have hS : va_S A s.heap s.heap [] := va_S.rf
  have hl := lv_entry ([.int i, .int n]) (n := 2) (Nat.le_of_ble_eq_true rfl)
  rw [lg_entry_eq]
  generalize (lg_sl ([.int i, .int n]) ++ List.replicate (2 - (lg_sl ([.int i, .int n])).length) Slot.unset).toArray = ls at hl ⊢
  have hl : lv_has ls 2 [(0, .int i), (1, .int n)] := hl
  refine lv_iload_n hx hb dJ0_checkIndex_df160_0 rfl (lv_at hl 0 rfl) ?_
  refine lv_iload_n hx hb dJ0_checkIndex_df160_1 rfl (lv_at hl 1 rfl) ?_
  rcases hZ.2.1 with hz | ⟨w, hz⟩
  · refine va_gets hx hb hz hS hown (jq hI (i := 27) rfl _) (fun _ h => h) dJ0_checkIndex_df160_2 ?_
    refine my_call (va_runS (As := [.int i, .int n, .null]) (rest := []) ⟨hx, hb, hml, hown, G_hts hI _⟩ (c_preN l (A := A) (sz := s.heap.size) (q := q) (t := t) (L := L) (f := f) h0 h1) ⟨callB_of 3 (G_hts hI _) (jg (i := 31) rfl) rfl rfl rfl (jq hI (i := 30) rfl _) (jq hI (i := 28) rfl _) (by decide +kernel) ⟨Nat.le_of_ble_eq_true rfl, Nat.le_of_ble_eq_true rfl⟩, (jq hI (i := 29) rfl _)⟩ ⟨jB.calling, fun U hU hW => ⟨rfl, jB.at hI hZ hE hS hU hW⟩⟩ rfl rfl hl.1 rfl (lv_room (Nat.le_of_ble_eq_true rfl)) dJ0_checkIndex_df160_5 ⟨Nat.zero_le _, Nat.zero_le _⟩) hS (fun _ _ h => h) (fun _ h => h) (fun _ _ _ hp => hp.2) (fun v st1 t1 H locs _ _ hp hS => ?_)
    cases hp.1
    refine lv_pop hx hb dJ0_checkIndex_df160_8 rfl ?_
    exact W.vret hx hb hr (fun t ht _ => ⟨rfl, hS.F ht⟩) hS.2.2 dJ0_checkIndex_df160_9
  · refine va_gets hx hb hz hS hown (jq hI (i := 27) rfl _) (fun _ h => h) dJ0_checkIndex_df160_2 ?_
    refine my_call (va_runS (As := [.int i, .int n, .ref w]) (rest := []) ⟨hx, hb, hml, hown, G_hts hI _⟩ (c_preR l (w := w) (A := A) (sz := s.heap.size) (q := q) (t := t) (L := L) (f := f) h0 h1) ⟨callB_of 3 (G_hts hI _) (jg (i := 31) rfl) rfl rfl rfl (jq hI (i := 30) rfl _) (jq hI (i := 28) rfl _) (by decide +kernel) ⟨Nat.le_of_ble_eq_true rfl, Nat.le_of_ble_eq_true rfl⟩, (jq hI (i := 29) rfl _)⟩ ⟨jB.calling, fun U hU hW => ⟨rfl, jB.at hI hZ hE hS hU hW⟩⟩ rfl rfl hl.1 rfl (lv_room (Nat.le_of_ble_eq_true rfl)) dJ0_checkIndex_df160_5 ⟨Nat.zero_le _, Nat.zero_le _⟩) hS (fun _ _ h => h) (fun _ h => h) (fun _ _ _ hp => hp.2) (fun v st1 t1 H locs _ _ hp hS => ?_)
    cases hp.1
    refine lv_pop hx hb dJ0_checkIndex_df160_8 rfl ?_
    exact W.vret hx hb hr (fun t ht _ => ⟨rfl, hS.F ht⟩) hS.2.2 dJ0_checkIndex_df160_9
theorem c_lat (l : Launch) {A : Nat → Prop} {sz q t L : Nat} {f : Nat → Int32} {i v : Int32} (h0 : ¬ i < 0) (h1 : i < Int32.ofNat L) (h2 : vp_in i L) (h3 : ((f i.toNatClampNeg &&& 255).toUInt32 % 65536).toInt32 = v) (h4 : narrow .char (.int v) = .int v) : Met l yJ1_charAt_3b067 [.code yJ1_charAt_3b067 cJ1_charAt_3b067 2 (some .char)] (jR 2) (va_Pc [.ref t, .int i] (jB A sz q t L f)) (jQ A (some (.int v))) 0 0 A := by
  refine Met.ofW (cc := cJ1_charAt_3b067) (maxL := 2) (ret := (some .char)) (ws' := []) (by decide) rfl ?_
  intro p e s m args below meth c s₁ B hml hv
  obtain ⟨rfl, rfl, hI, hZ, hE⟩ := hv
  have hx := B.exec
  have hb := B.bytes
  have hr := B.returns
  have hown : s.vm.findClass RJ1 = some m.cls := findClass_of_methodNamed B.named
  have hlocks := B.notSynchronized
  have hS : va_S A s.heap s.heap [] := va_S.rf
  have hl := lv_entry ([.ref t, .int i]) (n := 2) (Nat.le_of_ble_eq_true rfl)
  rw [lg_entry_eq]
  generalize (lg_sl ([.ref t, .int i]) ++ List.replicate (2 - (lg_sl ([.ref t, .int i])).length) Slot.unset).toArray = ls at hl ⊢
  have hl : lv_has ls 2 [(0, .ref t), (1, .int i)] := hl
  refine lv_iload_n hx hb dJ1_charAt_3b067_0 rfl (lv_at hl 1 rfl) ?_
  refine lv_aload_n hx hb dJ1_charAt_3b067_1 rfl (lv_at hl 0 rfl) ?_
  refine va_tlen hx hb hE.2.2.2 hS rfl dJ1_charAt_3b067_2 ?_
  refine my_call (va_runS (As := [.int i, .int (Int32.ofNat L)]) (rest := []) ⟨hx, hb, hml, hown, G_hts hI _⟩ (c_chk l (A := A) (sz := s.heap.size) (q := q) (t := t) (L := L) (f := f) h0 h1) ⟨callB_of 2 (G_hts hI _) (jg (i := 26) rfl) rfl rfl rfl (jq hI (i := 3) rfl _) (jq hI (i := 24) rfl _) (by decide +kernel) ⟨Nat.le_of_ble_eq_true rfl, Nat.le_of_ble_eq_true rfl⟩, (jq hI (i := 25) rfl _)⟩ ⟨jB.calling, fun U hU hW => ⟨rfl, jB.at hI hZ hE hS hU hW⟩⟩ rfl rfl hl.1 rfl (lv_room (Nat.le_of_ble_eq_true rfl)) dJ1_charAt_3b067_3 ⟨Nat.zero_le _, Nat.zero_le _⟩) hS (fun _ _ h => h) (fun _ h => h) (fun _ _ _ hp => hp.2) (fun v st1 t1 H locs _ _ hp hS => ?_)
  cases hp.1
  refine lv_aload_n hx hb dJ1_charAt_3b067_6 rfl (lv_at hl 0 rfl) ?_
  refine lv_iload_n hx hb dJ1_charAt_3b067_7 rfl (lv_at hl 1 rfl) ?_
  refine va_tb hx hb hE.2.2.2 hS h2 rfl dJ1_charAt_3b067_8 ?_
  refine lv_sipush (v := 255) hx hb dJ1_charAt_3b067_9 (by decide) ?_
  refine lv_iand hx hb dJ1_charAt_3b067_12 ?_
  refine lv_i2c hx hb dJ1_charAt_3b067_13 h3 ?_
  exact W.zret hx hb hr h4 (fun t ht _ => ⟨rfl, hS.F ht⟩) hS.2.2 dJ1_charAt_3b067_14
theorem c_charAt (l : Launch) {A : Nat → Prop} {sz q t L : Nat} {f : Nat → Int32} {i v : Int32} (h0 : ¬ i < 0) (h1 : i < Int32.ofNat L) (h2 : vp_in i L) (h3 : ((f i.toNatClampNeg &&& 255).toUInt32 % 65536).toInt32 = v) (h4 : narrow .char (.int v) = .int v) : Met l yJ0_charAt_5068e [.code yJ0_charAt_5068e cJ0_charAt_5068e 2 (some .char)] (jR 3) (va_Pc [.ref q, .int i] (jB A sz q t L f)) (jQ A (some (.int v))) 0 0 A := by
  refine Met.ofW (cc := cJ0_charAt_5068e) (maxL := 2) (ret := (some .char)) (ws' := []) (by decide) rfl ?_
  intro p e s m args below meth c s₁ B hml hv
  obtain ⟨rfl, rfl, hI, hZ, hE⟩ := hv
  have hx := B.exec
  have hb := B.bytes
  have hr := B.returns
  have hown : s.vm.findClass RJ0 = some m.cls := findClass_of_methodNamed B.named
  have hlocks := B.notSynchronized
  have hS : va_S A s.heap s.heap [] := va_S.rf
  have hl := lv_entry ([.ref q, .int i]) (n := 2) (Nat.le_of_ble_eq_true rfl)
  rw [lg_entry_eq]
  generalize (lg_sl ([.ref q, .int i]) ++ List.replicate (2 - (lg_sl ([.ref q, .int i])).length) Slot.unset).toArray = ls at hl ⊢
  have hl : lv_has ls 2 [(0, .ref q), (1, .int i)] := hl
  refine lv_aload_n hx hb dJ0_charAt_5068e_0 rfl (lv_at hl 0 rfl) ?_
  refine my_call (va_runV (As := []) (rest := []) ⟨hx, hb, hml, hown, G_hts hI _⟩ (c_isLatin1 l (A := A) (sz := s.heap.size) (q := q) (t := t) (L := L) (f := f)) ⟨callB_of 0 (G_hts hI _) (jg (i := 19) rfl) rfl rfl rfl (jq hI (i := 3) rfl _) (jq hI (i := 16) rfl _) (by decide +kernel) ⟨Nat.le_of_ble_eq_true rfl, Nat.le_of_ble_eq_true rfl⟩, (jq hI (i := 17) rfl _), (jq hI (i := 18) rfl _)⟩ ⟨jB.calling, hE.recv hS, fun U hU hW => ⟨rfl, jB.at hI hZ hE hS hU hW⟩⟩ rfl rfl hl.1 rfl (lv_room (Nat.le_of_ble_eq_true rfl)) dJ0_charAt_5068e_1 ⟨Nat.zero_le _, Nat.zero_le _⟩) hS (fun _ _ h => h) (fun _ h => h) (fun _ _ _ hp => hp.2) (fun v st1 t1 H locs _ _ hp hS => ?_)
  cases hp.1
  refine lv_if_eq hx hb dJ0_charAt_5068e_4 (tgt := 16) rfl (fun z => absurd z (by decide)) (fun _ => ?_)
  refine lv_aload_n hx hb dJ0_charAt_5068e_7 rfl (lv_at hl 0 rfl) ?_
  refine vk_getf hx hb hE.2.2.1 hS hown (jq hI (i := 5) rfl _) (fun _ h => h) dJ0_charAt_5068e_8 ?_
  refine lv_iload_n hx hb dJ0_charAt_5068e_11 rfl (lv_at hl 1 rfl) ?_
  refine my_call (va_runS (As := [.ref t, .int i]) (rest := []) ⟨hx, hb, hml, hown, G_hts hI _⟩ (c_lat l (A := A) (sz := H.size) (q := q) (t := t) (L := L) (f := f) h0 h1 h2 h3 h4) ⟨callB_of 2 (G_hts hI _) (jg (i := 23) rfl) rfl rfl rfl (jq hI (i := 22) rfl _) (jq hI (i := 20) rfl _) (by decide +kernel) ⟨Nat.le_of_ble_eq_true rfl, Nat.le_of_ble_eq_true rfl⟩, (jq hI (i := 21) rfl _)⟩ ⟨jB.calling, fun U hU hW => ⟨rfl, jB.at hI hZ hE hS hU hW⟩⟩ rfl rfl hl.1 rfl (lv_room (Nat.le_of_ble_eq_true rfl)) dJ0_charAt_5068e_12 ⟨Nat.zero_le _, Nat.zero_le _⟩) hS (fun _ _ h => h) (fun _ h => h) (fun _ _ _ hp => hp.2) (fun v st1 t1 H locs _ _ hp hS => ?_)
  cases hp.1
  exact W.zret hx hb hr h4 (fun t ht _ => ⟨rfl, hS.F ht⟩) hS.2.2 dJ0_charAt_5068e_15
def jam (c : Int32) : List Int32 → Int32
  | [] => 0
  | b :: bs => if b = c then 1 else jam c bs
/-- what the walk asks of one place of the text -/
def jok (L : Nat) (f : Nat → Int32) (cs : List Int32) (j : Nat) : Prop := ¬ Int32.ofNat j < 0 ∧ Int32.ofNat j < Int32.ofNat L ∧ vp_in (Int32.ofNat j) L ∧ ((f (Int32.ofNat j).toNatClampNeg &&& 255).toUInt32 % 65536).toInt32 = cs.getD j 0 ∧ narrow .char (.int (cs.getD j 0)) = .int (cs.getD j 0) ∧ Int32.ofNat j + Int32.ofInt 1 = Int32.ofNat (j + 1)
theorem jam01 (c : Int32) : ∀ l : List Int32, jam c l = 0 ∨ jam c l = 1
  | [] => Or.inl rfl
  | b :: bs => by
    unfold jam
    split
    · exact Or.inr rfl
    · exact jam01 c bs
theorem jam_nil (c : Int32) : jam c [] = 0 := rfl
theorem jam_cons (c b : Int32) (bs : List Int32) : jam c (b :: bs) = if b = c then 1 else jam c bs := rfl
def jRm (d : Nat) : Room := { frames := d + 6, cells := 0, slots := 0, locals := 50 * (d + 6) }
theorem c_isAmong (l : Launch) {d : Nat} {A F : Nat → Prop} {P : State → Prop} {Qc : Array Value → State → Outcome → State → Prop} {sz q L : Nat} {f : Nat → Int32} {v : Int32} {cs : List Int32} (hPre : ∀ U, P U → ∃ t, jB A sz q t L f U) (hF : ∀ q, A q → F q) (hPost : ∀ (s t : State), P s → va_F A s t → Qc [.ref q, .int v].toArray s (.returned (some (.int (jam v cs)))) t) (hL : cs.length = L) (hv : (Int32.ofNat L) >>> ((0 : Int32) &&& 31) = Int32.ofNat L) (hok : ∀ j, j < L → jok L f cs j) : Met l yX11_isAmong [.code yX11_isAmong cX11_isAmong 3 (some .boolean)] (jRm d) (va_Pc [.ref q, .int v] P) Qc 0 0 F := by
  refine Met.ofW (cc := cX11_isAmong) (maxL := 3) (ret := (some .boolean)) (ws' := []) (by decide) rfl ?_
  intro p e s m args below meth c s₁ B hml hv0
  obtain ⟨rfl, hPs⟩ := hv0
  obtain ⟨t, rfl, hI, hZ, hE⟩ := hPre s hPs
  have hx := B.exec
  have hb := B.bytes
  have hr := B.returns
  have hown : s.vm.findClass RX11 = some m.cls := findClass_of_methodNamed B.named
  have hlocks := B.notSynchronized
  have hS : va_S A s.heap s.heap [] := va_S.rf
  have hl := lv_entry ([.ref q, .int v]) (n := 3) (Nat.le_of_ble_eq_true rfl)
  rw [lg_entry_eq]
  generalize (lg_sl ([.ref q, .int v]) ++ List.replicate (3 - (lg_sl ([.ref q, .int v])).length) Slot.unset).toArray = ls at hl ⊢
  have hl : lv_has ls 3 [(0, .ref q), (1, .int v)] := hl
  have loop : ∀ (n i : Nat), i + n = L → jam v (cs.drop i) = jam v cs → ∀ (H : Heap) (locs : List Loc) (ls : Array Slot), va_S A s.heap H locs → lv_has ls 3 [(2, .int (Int32.ofNat i)), (0, .ref q), (1, .int v)] → W p l e (jRm d) s m [.ref q, .int v].toArray below meth c H locs 0 0 (MQ below Qc [.ref q, .int v].toArray s 0 0 F) (F0 m 2 ls []) := by
    intro n
    induction n with
    | zero =>
      intro i hi hj H locs ls hS hl
      have hi : i = L := hi
      have hj : jam v cs = 0 := by rw [← hj, List.drop_of_length_le (by omega)]; rfl
      subst hi
      refine lv_iload_n hx hb dX11_isAmong_2 rfl (lv_at hl 0 rfl) ?_
      refine lv_aload_n hx hb dX11_isAmong_3 rfl (lv_at hl 1 rfl) ?_
      refine my_call (va_runV (As := []) (rest := [.int (Int32.ofNat i)]) ⟨hx, hb, hml, hown, G_hts hI _⟩ (c_length l (A := A) (sz := H.size) (q := q) (t := t) (L := i) (f := f) hv) ⟨callB_of 0 (G_hts hI _) (jg (i := 4) rfl) rfl rfl rfl (jq hI (i := 3) rfl _) (jq hI (i := 0) rfl _) (by decide +kernel) ⟨by unfold jRm jR; dsimp only; omega, by unfold jRm jR; dsimp only; omega⟩, (jq hI (i := 1) rfl _), (jq hI (i := 2) rfl _)⟩ ⟨jB.calling, hE.recv hS, fun U hU hW => ⟨rfl, jB.at hI hZ hE hS hU hW⟩⟩ rfl rfl hl.1 rfl (lv_room (Nat.le_of_ble_eq_true rfl)) dX11_isAmong_4 ⟨Nat.zero_le _, Nat.zero_le _⟩) hS (fun _ _ h => h) (fun _ h => h) (fun _ _ _ hp => hp.2) (fun v st1 t1 H locs _ _ hp hS => ?_)
      cases hp.1
      refine lv_icmp_ge hx hb dX11_isAmong_7 (tgt := 27) rfl (fun _ => ?_) (fun z => absurd (Int32.le_refl _) z)
      refine lv_iconst (v := 0) hx hb dX11_isAmong_27 (by decide) ?_
      exact W.zret hx hb hr rfl (fun t ht _ => by have hz := hPost s t hPs (hS.F ht); rw [hj] at hz; exact hz) (fun q z => hF _ (hS.2.2 q z)) dX11_isAmong_28
    | succ n ih =>
      intro i hi hj H locs ls hS hl
      obtain ⟨k0, k1, k2, k3, k4, k5⟩ := hok i (by omega)
      have hd : cs.drop i = cs.getD i 0 :: cs.drop (i + 1) := by
        rw [List.drop_eq_getElem_cons (by omega), List.getD_eq_getElem?_getD, List.getElem?_eq_getElem (by omega)]; rfl
      rw [hd] at hj
      refine lv_iload_n hx hb dX11_isAmong_2 rfl (lv_at hl 0 rfl) ?_
      refine lv_aload_n hx hb dX11_isAmong_3 rfl (lv_at hl 1 rfl) ?_
      refine my_call (va_runV (As := []) (rest := [.int (Int32.ofNat i)]) ⟨hx, hb, hml, hown, G_hts hI _⟩ (c_length l (A := A) (sz := H.size) (q := q) (t := t) (L := L) (f := f) hv) ⟨callB_of 0 (G_hts hI _) (jg (i := 4) rfl) rfl rfl rfl (jq hI (i := 3) rfl _) (jq hI (i := 0) rfl _) (by decide +kernel) ⟨by unfold jRm jR; dsimp only; omega, by unfold jRm jR; dsimp only; omega⟩, (jq hI (i := 1) rfl _), (jq hI (i := 2) rfl _)⟩ ⟨jB.calling, hE.recv hS, fun U hU hW => ⟨rfl, jB.at hI hZ hE hS hU hW⟩⟩ rfl rfl hl.1 rfl (lv_room (Nat.le_of_ble_eq_true rfl)) dX11_isAmong_4 ⟨Nat.zero_le _, Nat.zero_le _⟩) hS (fun _ _ h => h) (fun _ h => h) (fun _ _ _ hp => hp.2) (fun v st1 t1 H locs _ _ hp hS => ?_)
      cases hp.1
      refine lv_icmp_ge hx hb dX11_isAmong_7 (tgt := 27) rfl (fun z => absurd k1 (Int32.not_lt.mpr z)) (fun _ => ?_)
      refine lv_aload_n hx hb dX11_isAmong_10 rfl (lv_at hl 1 rfl) ?_
      refine lv_iload_n hx hb dX11_isAmong_11 rfl (lv_at hl 0 rfl) ?_
      refine my_call (va_runV (As := [.int (Int32.ofNat i)]) (rest := []) ⟨hx, hb, hml, hown, G_hts hI _⟩ (c_charAt l (A := A) (sz := H.size) (q := q) (t := t) (L := L) (f := f) k0 k1 k2 k3 k4) ⟨callB_of 1 (G_hts hI _) (jg (i := 15) rfl) rfl rfl rfl (jq hI (i := 3) rfl _) (jq hI (i := 12) rfl _) (by decide +kernel) ⟨by unfold jRm jR; dsimp only; omega, by unfold jRm jR; dsimp only; omega⟩, (jq hI (i := 13) rfl _), (jq hI (i := 14) rfl _)⟩ ⟨jB.calling, hE.recv hS, fun U hU hW => ⟨rfl, jB.at hI hZ hE hS hU hW⟩⟩ rfl rfl hl.1 rfl (lv_room (Nat.le_of_ble_eq_true rfl)) dX11_isAmong_12 ⟨Nat.zero_le _, Nat.zero_le _⟩) hS (fun _ _ h => h) (fun _ h => h) (fun _ _ _ hp => hp.2) (fun v st1 t1 H locs _ _ hp hS => ?_)
      cases hp.1
      refine lv_iload_n hx hb dX11_isAmong_15 rfl (lv_at hl 2 rfl) ?_
      refine lv_icmp_ne hx hb dX11_isAmong_16 (tgt := 21) rfl (fun z => ?_) (fun z => ?_)
      · refine lv_iinc hx hb dX11_isAmong_21 hl (k := 0) rfl k5 (by decide) rfl (fun ls hl => ?_)
        refine lv_goto hx hb dX11_isAmong_24 (tgt := 2) rfl ?_
        exact ih (i + 1) (by omega) (by rw [← hj, jam_cons, if_neg z]) _ _ _ hS hl
      · have hj : jam v cs = 1 := by rw [← hj, jam_cons, if_pos z]
        refine lv_iconst (v := 1) hx hb dX11_isAmong_19 (by decide) ?_
        exact W.zret hx hb hr rfl (fun t ht _ => by have hz := hPost s t hPs (hS.F ht); rw [hj] at hz; exact hz) (fun q z => hF _ (hS.2.2 q z)) dX11_isAmong_20
  refine lv_iconst (v := 0) hx hb dX11_isAmong_0 (by decide) ?_
  refine lv_istore_n hx hb dX11_isAmong_1 rfl hl (by decide) rfl (fun ls hl => ?_)
  exact loop L 0 (by omega) rfl _ _ _ hS hl
theorem u83 : eY (mOf 83) = yX11_isAmong ∧ eB (mOf 83) = cX11_isAmong ∧ eL (mOf 83) = 3 ∧ eRet (mOf 83) = some .boolean ∧ eN (mOf 83) = 2 := by decide +kernel
theorem w83 : wCode 83 = .code yX11_isAmong cX11_isAmong 3 (some .boolean) := by
  obtain ⟨e1, e2, e3, e4, -⟩ := u83
  unfold wCode
  rw [e1, e2, e3, e4]
theorem h83 : StatOK 83 := by
  obtain ⟨e1, e2, e3, e4, e5⟩ := u83
  unfold StatOK
  rw [w83, e1, e3, e5]
  exact ⟨(jg (i := 32) rfl), ⟨in_tbl (jws_ok _ (List.mem_of_getElem? (i := 34) rfl)).1, (jws_ok _ (List.mem_of_getElem? (i := 34) rfl)).2⟩, ⟨in_tbl (jws_ok _ (List.mem_of_getElem? (i := 33) rfl)).1, (jws_ok _ (List.mem_of_getElem? (i := 33) rfl)).2⟩, (by decide +kernel), by decide⟩
theorem jam1 (v : Int32) : jam v [121] = if v = 121 then 1 else 0 := by
  rw [jam_cons, jam_nil]
  by_cases h1 : v = 121
  · rw [if_pos h1, if_pos h1.symm]
  · rw [if_neg h1, if_neg (Ne.symm h1)]
theorem jam6 (v : Int32) : jam v [108, 100, 109, 110, 119, 116] = if v = 108 ∨ v = 100 ∨ v = 109 ∨ v = 110 ∨ v = 119 ∨ v = 116 then 1 else 0 := by
  by_cases h1 : v = 108; · subst h1; rfl
  by_cases h2 : v = 100; · subst h2; rfl
  by_cases h3 : v = 109; · subst h3; rfl
  by_cases h4 : v = 110; · subst h4; rfl
  by_cases h5 : v = 119; · subst h5; rfl
  by_cases h6 : v = 116; · subst h6; rfl
  rw [if_neg (by rintro (h | h | h | h | h | h) <;> contradiction)]
  simp only [jam_cons, jam_nil]
  rw [if_neg (Ne.symm h1), if_neg (Ne.symm h2), if_neg (Ne.symm h3), if_neg (Ne.symm h4), if_neg (Ne.symm h5), if_neg (Ne.symm h6)]
theorem jpre {D : va_G} {cA : Nat → ClassId} {ρ : Nat → Nat} {h : Hp} {sz k : Nat} (hk : k < 2) (U : State) (hU : xPre D cA ρ h sz U) : ∃ t, jB (fun q => sz ≤ q) sz (ρ (SCR + 1 + k)) t (([1, 6] : List Nat).getD k 0) (fun j => (([[121], [108, 100, 109, 110, 119, 116]] : List (List Int32)).getD k []).getD j 0) U := by
  obtain ⟨h1, h2, h3, h4, h5, h6, ⟨adV, z1⟩, z2, z3, z4, z5, z6, z7, z8⟩ := hU
  have hn : ∀ q, sz ≤ q → va_A (wsR ρ cA h) sz q := fun q z => Or.inr z
  obtain ⟨y1, y2, y3, y4⟩ := (z1.narrow hn).1 k hk
  exact ⟨adV k, h1, h5, ⟨z5.narrow hn, z6.narrow hn, z7.narrow hn, z8.narrow hn⟩, y1, y2, y3, y4⟩
theorem jpost {D : va_G} {cA : Nat → ClassId} {ρ : Nat → Nat} {h : Hp} {sz : Nat} {i : Int32} (hw : WF h) {a : Array Value} (s t : State) (hs : xPre D cA ρ h sz s) (hF : va_F (fun q => sz ≤ q) s t) : xPost D cA ρ h sz (some (.int i)) h a s (.returned (some (.int i))) t := by
  obtain ⟨h1, h2, h3, h4, -⟩ := hs
  refine ⟨⟨ρ, rfl, fun x hx => ?_, fun _ _ => rfl, hw, fun k q hk => ?_, h4.self⟩, hF.1, fun q hq hn => hF.2 q hq fun z => hn (Or.inr z)⟩
  · cases hx; exact Or.inl ⟨i, rfl⟩
  · have hlt := (h2 k q hk).lt
    exact (h2 k q hk).kept (hF.2 q.1 hlt (by rw [← h1]; omega))
theorem jok1 : ∀ j, j < 1 → jok 1 (fun j => (([[121], [108, 100, 109, 110, 119, 116]] : List (List Int32)).getD 0 []).getD j 0) [121] j := by
  intro j hj
  rcases (show j = 0 by omega) with rfl
  exact ⟨by decide, by decide, by unfold vp_in; decide, by decide, rfl, by decide⟩
theorem jok6 : ∀ j, j < 6 → jok 6 (fun j => (([[121], [108, 100, 109, 110, 119, 116]] : List (List Int32)).getD 1 []).getD j 0) [108, 100, 109, 110, 119, 116] j := by
  intro j hj
  rcases (show j = 0 ∨ j = 1 ∨ j = 2 ∨ j = 3 ∨ j = 4 ∨ j = 5 by omega) with rfl | rfl | rfl | rfl | rfl | rfl <;> exact ⟨by decide, by decide, by unfold vp_in; decide, by decide, rfl, by decide⟩
theorem hAm (l : Launch) : ∀ (d : Nat) (vs : List Value) (h : Hp) (v : Option Value) (h1 : Hp), pAmong vs h = some (v, h1) → xCon l (d + 5) 83 vs h v h1 := by
  intro d vs h v h1 hq
  unfold pAmong at hq
  split at hq
  · rename_i a x
    split at hq
    · rename_i ha
      cases hq
      subst ha
      intro hw hv D cA ρ sz
      rw [w83, u83.1]
      unfold xRoom
      rw [Nat.sub_self, Nat.sub_self, ← jam1]
      exact c_isAmong l (d := d) (A := fun q => sz ≤ q) (sz := sz) (q := ρ (SCR + 1)) (cs := [121]) (jpre (k := 0) (by decide)) (fun q z => Or.inr z) (fun s t => jpost hw s t) rfl (by decide) jok1
    · split at hq
      · rename_i ha
        cases hq
        subst ha
        intro hw hv D cA ρ sz
        rw [w83, u83.1]
        unfold xRoom
        rw [Nat.sub_self, Nat.sub_self, ← jam6]
        exact c_isAmong l (d := d) (A := fun q => sz ≤ q) (sz := sz) (q := ρ (SCR + 2)) (cs := [108, 100, 109, 110, 119, 116]) (jpre (k := 1) (by decide)) (fun q z => Or.inr z) (fun s t => jpost hw s t) rfl (by decide) jok6
      · cases hq
  · cases hq
