/-! THE CLAIM OUT OF ONE WALK OF THE LAW'S BODY. Your part is whole_start (and what it stands on); all else here is the same for every law, but numbers. -/
def R_law : String := "DiceLawLaw"
def lw_P (b : Addr) (xs : List Int32) (args : Array Value) (s : State) : Prop := args = #[.ref b] ∧ s.IntsAt b xs ∧ xs.length ≤ 4096 ∧ (Jvm.Cond.and given_1 narrow_1).before args s = true
def lw_Q (_ : Array Value) (s : State) (o : Outcome) (t : State) : Prop := o = .returned (some (.int 1)) ∧ Framed s o t [] 601024 7293034
def lw_Z (below : List Frame) (a : Array Value) (s : State) : State → Prop := fun t => ∃ o, t.status = .running ∧ Ended t below o ∧ lw_Q a s o t
/-- the law's own end, with 1 on the stack, nothing written that was there before, its room as the claim has it -/
theorem lw_ret {p : Program} {l : Launch} {e : Env} {s : State} {m : MethodId} {below : List Frame} {meth : Method} {c : Code} {b : Nat} (hx : p.tables.exec = Jvm.exec) (hb : c.code = code) (hr : meth.sig.returnType = ret) (hlocks : meth.locks = false) {pc : Nat} {H : Heap} {ls : Array Slot} (hdg : decode code pc = .ok (.ireturn, 1)) : W p l e room_1 s m #[Value.ref b] below meth c H [] 601024 7293034 (lw_Z below #[Value.ref b] s) (F0 m pc ls [.int 1]) := by
  intro T hT X
  obtain ⟨fs, hret, hrun, hended, hW, hframe⟩ := X.leave (v := some (.int 1)) (hlocks := hlocks) (fun h => by rw [hr] at h; cases h)
  have hmeth' : T.vm.method? m = some meth := X.method'
  refine ⟨T.setFrames fs, ?_, .returned (some (.int 1)), hrun, hended, rfl, ⟨_, rfl⟩, hW, hframe⟩
  jvm_step X.here [X.here.top, hx, hb, hdg, hmeth', hr, ret, narrow_b1]
  (try refine ⟨rfl, ?_⟩); (try refine ⟨rfl, ?_⟩)
  first | (intro acts; rw [hret _ acts rfl rfl rfl]) | rw [hret _ _ rfl rfl rfl]
  exact Steps.refl _
/-- what holds at the law's entry: the machine, the code, the tables' words (any of lw_tbl by 'hts w (by decide +kernel)'), the script of L ints xs at the cell b, what the Statement gives of the start (any of its parts by flat_of_before) -/
def lw_At (p : Program) (s : State) (m : MethodId) (meth : Method) (c : Code) (b L : Nat) (xs : Nat → Int32) : Prop :=
  p.tables.exec = Jvm.exec ∧ c.code = code ∧ meth.sig.returnType = ret ∧ c.maxLocals = 7 ∧ s.vm.findClass R_law = some m.cls ∧ (∀ w ∈ lw_tbl, w.before #[Value.ref b] s = true) ∧ va_X b L xs s s.heap ∧ b < s.heap.size ∧ meth.locks = false ∧ (Jvm.Cond.and given_1 narrow_1).before #[Value.ref b] s = true
/-! The law's frame: what holds at its start, and the claim out of one run of the interpreter. -/
def hp0 : Hp := (fun _ => 0, fun _ => 0, fun _ _ => 0, fun _ _ => 0, fun _ _ => none, 0, 0, 0)
theorem Inv.start {s : State} {args : Array Value} (hts : ∀ w ∈ lw_tbl, w.before args s = true) : Inv s := by
  intro w hw ht
  have h1 := hts w hw
  unfold okTag at ht
  rw [Bool.or_eq_true] at ht
  rcases ht with hg | hn
  · exact word_at (State.WarmedH.refl s) (good_of_word hg) h1
  · cases w <;> first | (cases hn; done) | exact va_Nw.of rfl h1
theorem K_start {s : State} {args : Array Value} (hts : ∀ w ∈ lw_tbl, w.before args s = true) (hI : Inv s) : ∃ (D : va_G) (cA : Nat → ClassId), va_K D xcl (xty cA) s := by
  have h1 : ∀ ci : Nat, ∃ r : ClassId × (Nat → Nat), ci < 12 → u_Kn s (rn ci) (Tx ci) (Nx ci) r.1 r.2 := by
    intro ci
    by_cases hc : ci < 12
    · obtain ⟨cC, iS, h⟩ := u_known (args := #[]) (G_hts hI #[]) (ws_in hc) (Inv.use hI (in_tbl (wN_ok ci hc).1) (by first | rfl | simp [goodWord, Jvm.Cond.onTables, Jvm.Cond.keeps, Jvm.Cond.steady]) #[])
      exact ⟨(cC, iS), fun _ => h⟩
    · exact ⟨(0, fun _ => 0), fun z => absurd z hc⟩
  have ha : ∀ ty : FieldType, Jvm.Cond.arrayClass ty ∈ lw_tbl → (∀ C, ty ≠ .object C) → ∃ c : ClassId, ArrOfT s c ty ∧ va_RA s c ty := by
    intro ty hm hno
    obtain ⟨cA, kA, comp, e1, e2, e3⟩ := Cond.arrayClass_spec (Inv.use hI hm rfl #[])
    refine ⟨cA, fun N z => ⟨(fun k h => by cases h), kA, e2, comp, e3⟩, ?_⟩
    cases ty with
    | object C => exact absurd rfl (hno C)
    | _ => exact e1
  obtain ⟨c0, a0, b0⟩ := ha .int wA_ok.1 (fun _ h => by cases h)
  obtain ⟨c1, a1, b1⟩ := ha .byte wA_ok.2.1 (fun _ h => by cases h)
  obtain ⟨c2, a2, b2⟩ := ha .boolean wA_ok.2.2.1 (fun _ h => by cases h)
  obtain ⟨c3, a3, b3⟩ := ha .long wA_ok.2.2.2 (fun _ h => by cases h)
  obtain ⟨c4, a4, b4⟩ : ∃ c : ClassId, ArrOfT s c (.object RX8) ∧ va_RA s c (.object RX8) := by
    obtain ⟨comp, c, k, e1, e2, e3, e4, e5⟩ := Cond.arrayOver_spec (hts _ wO_ok)
    exact ⟨c, fun N z => ⟨(fun k h => by cases h), k, e3, comp, e4⟩, k, comp, e3, e4, e1, e5⟩
  refine ⟨(fun k => (Classical.choose (h1 k)).1, fun k => (Classical.choose (h1 k)).2), fun k => match k with | 0 => c0 | 1 => c1 | 2 => c2 | 3 => c3 | _ => c4, ?_, ?_⟩
  · intro ci q hq
    have hci : ci < 12 := (List.getElem?_eq_some_iff.mp hq).1
    rw [xcl_at hci] at hq
    cases hq
    exact Classical.choose_spec (h1 ci) hci
  · intro k q hq
    match k, hq with
    | 0, hq => cases hq; exact ⟨a0, b0⟩
    | 1, hq => cases hq; exact ⟨a1, b1⟩
    | 2, hq => cases hq; exact ⟨a2, b2⟩
    | 3, hq => cases hq; exact ⟨a3, b3⟩
    | 4, hq => cases hq; exact ⟨a4, b4⟩
    | k + 5, hq => simp [xty] at hq
set_option maxRecDepth 20000 in
theorem str_start {s : State} {b : Addr} (hts : ∀ w ∈ lw_tbl, w.before #[Value.ref b] s = true) (hgv : (Jvm.Cond.and given_1 narrow_1).before #[Value.ref b] s = true) : ∃ a1 a2 a3 : Nat, ∀ ρ : Nat → Nat, ρ (SCR + 1) = a1 → ρ (SCR + 2) = a2 → ρ (SCR + 3) = a3 → xStr ρ (fun q => s.heap.size ≤ q) s := by
  have hs := flat_of_before _ hgv
  have hA : ∀ a : Nat, a < s.heap.size → ¬ (fun q : Nat => s.heap.size ≤ q) a := fun a h => Nat.not_le.mpr h
  obtain ⟨adK, adV, h1, h2⟩ := vk_Sof (args := #[Value.ref b]) (s := s) (N := 2) (tm := fun i => if i = 0 then .string "DiceLawModel" 26 else .string "DiceLawModel" 32) (len := [1, 6]) (byt := [[121], [108, 100, 109, 110, 119, 116]]) (A := fun q => s.heap.size ≤ q) (by decide)
    (fun i hi => by rcases (show i = 0 ∨ i = 1 by omega) with rfl | rfl <;> exact hs _ (by decide +kernel))
    (fun i hi => by rcases (show i = 0 ∨ i = 1 by omega) with rfl | rfl <;> exact hs _ (by decide +kernel))
    (fun i hi => by rcases (show i = 0 ∨ i = 1 by omega) with rfl | rfl <;> exact hs _ (by decide +kernel))
    (fun i hi => by rcases (show i = 0 ∨ i = 1 by omega) with rfl | rfl <;> exact hs _ (by decide +kernel))
    (fun i hi j hj => by
      rcases (show i = 0 ∨ i = 1 by omega) with rfl | rfl
      · have hj : j < 1 := hj
        rcases (show j = 0 by omega) with rfl
        exact hs _ (by decide +kernel)
      · have hj : j < 6 := hj
        rcases (show j = 0 ∨ j = 1 ∨ j = 2 ∨ j = 3 ∨ j = 4 ∨ j = 5 by omega) with rfl | rfl | rfl | rfl | rfl | rfl <;> exact hs _ (by decide +kernel))
    (fun i j hi hj hij => by
      rcases (show i = 0 ∨ i = 1 by omega) with rfl | rfl <;> rcases (show j = 0 ∨ j = 1 by omega) with rfl | rfl
      · exact absurd rfl hij
      · exact Or.inl (hs _ (by decide +kernel))
      · exact Or.inr (hs _ (by decide +kernel))
      · exact absurd rfl hij) hA
  obtain ⟨adK3, adV3, h3, h4⟩ := vk_Sof (args := #[Value.ref b]) (s := s) (N := 1) (tm := fun _ => .string "DiceLaw" 135) (len := [19]) (byt := [[110, 111, 32, 115, 117, 99, 104, 32, 76, 65, 87, 32, 111, 114, 32, 70, 65, 67, 69]]) (A := fun q => s.heap.size ≤ q) (by decide)
    (fun i hi => hs _ (by decide +kernel)) (fun i hi => hs _ (by decide +kernel)) (fun i hi => hs _ (by decide +kernel))
    (fun i hi => by rcases (show i = 0 by omega) with rfl; exact hs _ (by decide +kernel))
    (fun i hi j hj => by
      rcases (show i = 0 by omega) with rfl
      have hj : j < 19 := hj
      have hall : ∀ j, j < 19 → (Jvm.Cond.eq (.elem (.field (.string "DiceLaw" 135) "java/lang/String" "value" "[B") (.int (Int32.ofNat j))) (.int (([[110, 111, 32, 115, 117, 99, 104, 32, 76, 65, 87, 32, 111, 114, 32, 70, 65, 67, 69]] : List (List Int32)).getD 0 [] |>.getD j 0))) ∈ flatC (Jvm.Cond.and given_1 narrow_1) := by decide +kernel
      exact hs _ (hall j hj))
    (fun i j hi hj hij => absurd (show i = j by omega) hij) hA
  refine ⟨adK 0, adK 1, adK3 0, fun ρ e1 e2 e3 => ⟨⟨adV, ?_⟩, ?_, ?_, ?_, ?_, ?_, ?_, ?_⟩⟩
  · refine ⟨fun i hi => ?_, fun i j hi hj hij => ?_⟩
    · have := h1.1 i hi
      rcases (show i = 0 ∨ i = 1 by omega) with rfl | rfl
      · rw [show (fun i => ρ (SCR + 1 + i)) 0 = adK 0 from e1]; exact this
      · rw [show (fun i => ρ (SCR + 1 + i)) 1 = adK 1 from e2]; exact this
    · rcases (show i = 0 ∨ i = 1 by omega) with rfl | rfl <;> rcases (show j = 0 ∨ j = 1 by omega) with rfl | rfl
      · rfl
      · rw [show (fun i => ρ (SCR + 1 + i)) 0 = adK 0 from e1, show (fun i => ρ (SCR + 1 + i)) 1 = adK 1 from e2] at hij
        exact h1.2 _ _ hi hj hij
      · rw [show (fun i => ρ (SCR + 1 + i)) 0 = adK 0 from e1, show (fun i => ρ (SCR + 1 + i)) 1 = adK 1 from e2] at hij
        exact h1.2 _ _ hi hj hij
      · rfl
  · rw [e1]; exact vk_R.of (A := #[Value.ref b]) (hts _ (in_tbl (by decide +kernel))) (h2 0 (by decide))
  · rw [e2]; exact vk_R.of (A := #[Value.ref b]) (hts _ (in_tbl (by decide +kernel))) (h2 1 (by decide))
  · rw [e3]; exact vk_R.of (A := #[Value.ref b]) (hts _ (in_tbl (by decide +kernel))) (h4 0 (by decide))
  · exact va_Zof (args := #[Value.ref b]) (hts _ (in_tbl (by decide +kernel))) (hts _ (in_tbl (by decide +kernel))) (va_eqi (hs _ (by decide +kernel))) hA
  · exact va_Zqof (args := #[Value.ref b]) (hts _ (in_tbl (by decide +kernel))) (hts _ (in_tbl (by decide +kernel))) (hs _ (by decide +kernel)) hA
  · exact va_Zqof (args := #[Value.ref b]) (hts _ (in_tbl (by decide +kernel))) (hts _ (in_tbl (by decide +kernel))) (hs _ (by decide +kernel)) hA
  · exact va_Zqof (args := #[Value.ref b]) (hts _ (in_tbl (by decide +kernel))) (hts _ (in_tbl (by decide +kernel))) (hs _ (by decide +kernel)) hA
def ls0 : LL := [some (.ref SCR), none, none, none, none, none, none]
def lawRule (l : Launch) : Prop := ∀ {p : Program} {e : Env} {R : Room} {s : State} {m : MethodId} {args : Array Value} {below : List Frame} {meth : Method} {c : Code} {Q : State → Prop} {o rt nL : Nat} {ini : Bool} {bytes : ByteArray} {pcs : List Nat} {A : Nat → Prop} {D : va_G} {cA : Nat → ClassId} {ρ0 : Nat → Nat} {h0 hE : Hp} {scr : Option (Nat × (Nat → Int32))} {cf : Nat → List Value → Hp → Option XR} {B : Nat → List XI} {vE : Option Value} {n : Nat} {ρ : Nat → Nat} {H : Heap} {locs : List Loc} {cells slots pc : Nat} {lsA : Array Slot} {is : List XI} {ls : LL} {st : List Value} {h : Hp} {idx nest d N : Nat}, xCtx p R s m meth c o nL ini bytes A D cA ρ0 h0 hE scr → va_AO "DiceLaw$Text" s → d ≤ 1000 → 2000 ≤ R.frames → 80000 ≤ R.locals → cf = xCall N d → xIH p l e R s m args below meth c Q o rt nL ini bytes pcs A D cA ρ0 h0 hE cf scr B vE n → zSt s nL A D cA ρ0 h0 hE ρ H locs cells slots lsA ls st h → xlu xMt o idx = some (274, nest) → decode bytes pc = .ok (.invokestatic idx, 3) → xchk o rt ini bytes pcs (pc + 3) is = true → xnRun cf scr B vE hE n (xStep cf scr B (.invokestatic 274, eN (mOf 274)) is ls st h) → W p l e R s m args below meth c H locs cells slots Q (F0 m pc lsA (st.map (vR ρ)))
set_option maxHeartbeats 1000000 in
theorem law_run {p : Program} {e : Env} {s : State} {m : MethodId} {below : List Frame} {meth : Method} {c : Code} (l : Launch) {b L : Nat} {xs : Nat → Int32} (C0 : lw_At p s m meth c b L xs) (h83 : StatOK 83) (hAm : ∀ (d : Nat) (vs : List Value) (h : Hp) (v : Option Value) (h1 : Hp), pAmong vs h = some (v, h1) → xCon l (d + 5) 83 vs h v h1) (hCl : lawRule l) {d N : Nat} {H1 : Hp} (hd : d ≤ 1000)
    (hrun : xRun (xCall N d) (some (L, xs)) (blk 275) N (blk 275 0) ls0 [] hp0 = some (some (.int 1), H1)) (hc1 : hC H1 ≤ 601024) (hs1 : hS H1 ≤ 7293034) : W p l e room_1 s m #[Value.ref b] below meth c s.heap [] 0 0 (lw_Z below #[Value.ref b] s) (entryFrame m ([Value.ref b] : List Value).toArray 7) := by
  obtain ⟨hx, hb, hr, hml, hown, hts, hX, hbl, hlocks, hgv⟩ := C0
  have hI := Inv.start hts
  obtain ⟨D, cA, hK⟩ := K_start hts hI
  obtain ⟨a1, a2, a3, hstr⟩ := str_start hts hgv
  have hAO : va_AO "DiceLaw$Text" s := va_AO.of (hts _ wO_ok)
  have r0 : (fun a => if a = SCR then b else if a = SCR + 1 then a1 else if a = SCR + 2 then a2 else if a = SCR + 3 then a3 else 0 : Nat → Nat) SCR = b := by simp
  have r1 : (fun a => if a = SCR then b else if a = SCR + 1 then a1 else if a = SCR + 2 then a2 else if a = SCR + 3 then a3 else 0 : Nat → Nat) (SCR + 1) = a1 := by simp
  have r2 : (fun a => if a = SCR then b else if a = SCR + 1 then a1 else if a = SCR + 2 then a2 else if a = SCR + 3 then a3 else 0 : Nat → Nat) (SCR + 2) = a2 := by simp
  have r3 : (fun a => if a = SCR then b else if a = SCR + 1 then a1 else if a = SCR + 2 then a2 else if a = SCR + 3 then a3 else 0 : Nat → Nat) (SCR + 3) = a3 := by simp
  generalize (fun a => if a = SCR then b else if a = SCR + 1 then a1 else if a = SCR + 2 then a2 else if a = SCR + 3 then a3 else 0 : Nat → Nat) = ρ0 at r0 r1 r2 r3
  have hw : WF hp0 := ⟨fun _ _ => rfl, (fun a k b h => by cases h), Nat.zero_le _⟩
  have X : xCtx p room_1 s m meth c 12 7 false code (fun q => s.heap.size ≤ q) D cA ρ0 hp0 H1 (some (L, xs)) := ⟨hx, hb, hml, hown, hI, hK, fun _ h => h, (fun h => by cases h), ⟨by show hC H1 ≤ 0 + 601024; omega, by show hS H1 ≤ 0 + 7293034; omega⟩, hstr ρ0 r1 r2 r3, fun q hq => by
    cases hq
    rw [r0]
    exact ⟨hX, hbl, Nat.not_le.mpr hbl⟩⟩
  have e0 : wsR ρ0 cA hp0 = [] := rfl
  have hl := lv_entry ([Value.ref b] : List Value) (n := 7) (Nat.le_of_ble_eq_true rfl)
  have hlv : lvR ((lg_sl [Value.ref b] ++ List.replicate (7 - (lg_sl [Value.ref b]).length) Slot.unset).toArray) 7 ρ0 ls0 := by
    refine ⟨hl.1, hl.2.1, rfl, fun i v hv => ?_⟩
    match i, hv with
    | 0, hv =>
      have : v = .ref SCR := by cases hv; rfl
      subst this
      show _ = some (Slot.val (.ref (ρ0 SCR)))
      rw [r0]
      exact hl.2.2 (0, .ref b) List.mem_cons_self
    | 1, hv => cases hv
    | 2, hv => cases hv
    | 3, hv => cases hv
    | 4, hv => cases hv
    | 5, hv => cases hv
    | 6, hv => cases hv
    | i + 7, hv => simp [lget, ls0] at hv
  have S : zSt s 7 (fun q => s.heap.size ≤ q) D cA ρ0 hp0 H1 ρ0 s.heap [] 0 0 ((lg_sl [Value.ref b] ++ List.replicate (7 - (lg_sl [Value.ref b]).length) Slot.unset).toArray) ls0 [] hp0 := by
    refine ⟨hlv, hw, (fun _ z => by cases z), fun i x hx => ?_, ?_, ?_, va_S.rf, ⟨fun _ _ => rfl, Nat.le_refl _⟩, rfl, rfl⟩
    · match i, hx with
      | 0, hx => cases hx; exact vOK_ref (Or.inr (Nat.le_refl _))
      | 1, hv => cases hv
      | 2, hv => cases hv
      | 3, hv => cases hv
      | 4, hv => cases hv
      | 5, hv => cases hv
      | 6, hv => cases hv
      | i + 7, hv => simp [lget, ls0] at hv
    · rw [e0]; exact fun k q h => by simp at h
    · rw [e0]; exact ⟨fun i j p q h => by simp at h, fun k q h => by simp at h⟩
  have hEnd : xEnd p l e room_1 s m #[Value.ref b] below meth c (lw_Z below #[Value.ref b] s) 2 7 code (fun q => s.heap.size ≤ q) D cA ρ0 hp0 H1 (some (.int 1)) := by
    intro ρ' H locs cells slots pc lsA ls S'
    refine ⟨fun x hx9 hrt hd9 => ?_, (fun x hx9 => by cases hx9), (fun hx9 => by cases hx9)⟩
    cases hx9
    refine va_forget (fun q hq => S'.2.2.2.2.2.2.1.2.2 q hq) ?_
    have f1 : cells ≤ 601024 := by have h9 := S'.2.2.2.2.2.2.2.2.1; have : hC hp0 = 0 := rfl; omega
    have f2 : slots ≤ 7293034 := by have h9 := S'.2.2.2.2.2.2.2.2.2; have : hS hp0 = 0 := rfl; omega
    refine W.widen (k := 601024) (n := 7293034) f1 f2 ?_
    exact lw_ret hx hb hr hlocks hd9
  have hcs : xcfOK l room_1 (xCall N d) := ⟨d + 5, by show d + 5 + 2 ≤ 2048; omega, by show 49 + 50 * (d + 5 + 1) ≤ 84000; omega, met_all l N h83 hAm d⟩
  have hB : ∀ (b t : Nat), (ePcs (mOf 275))[b]? = some t → xchk 12 2 false code (ePcs (mOf 275)) t (blk 275 b) = true := fun b t q => mOf_blk 275 b t q
  have main := xW (rt := 2) (ini := false) (o := 12) X hAO (xCall_mono N d) hcs ⟨by show 1 ≤ 2048; omega, by show 40 ≤ 84000; omega⟩ hB hEnd h83 (fun n {ρ H locs cells slots pc lsA is ls st h idx nest} IH S hx hd9 hc hq => hCl X hAO hd (by show 2000 ≤ 2048; omega) (by show 80000 ≤ 84000; omega) rfl IH S hx hd9 hc hq) N
  rw [lg_entry_eq]
  exact main _ _ _ _ hrun ρ0 s.heap [] 0 0 0 _ (hB 0 0 (by decide +kernel)) S
