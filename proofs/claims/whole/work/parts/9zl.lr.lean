/-! The law's clause as a step of the law's walk; the law's run. -/
def lawRule2 (l : Launch) : Prop := ∀ {p : Program} {e : Env} {R : Room} {s : State} {m : MethodId} {args : Array Value} {below : List Frame} {meth : Method} {c : Code} {Q : State → Prop} {o rt nL : Nat} {ini : Bool} {bytes : ByteArray} {pcs : List Nat} {A : Nat → Prop} {D : va_G} {cA : Nat → ClassId} {ρ0 : Nat → Nat} {h0 hE : Hp} {scr : Option (Nat × (Nat → Int32))} {cf : Nat → List Value → Hp → Option XR} {B : Nat → List XI} {vE : Option Value} {n : Nat} {ρ : Nat → Nat} {H : Heap} {locs : List Loc} {cells slots pc : Nat} {lsA : Array Slot} {is : List XI} {ls : LL} {st : List Value} {h : Hp} {idx nest d N : Nat}, xCtx p R s m meth c o nL ini bytes A D cA ρ0 h0 hE scr → va_AO "DiceLaw$Text" s → ExW s → vx_Zq Bundle.tN "UNASSIGNED_STACK" Bundle.steD A s s.heap → vx_Zq Bundle.tN "SUPPRESSED_SENTINEL" Bundle.listD A s s.heap → d ≤ 1000 → 2000 ≤ R.frames → 80000 ≤ R.locals → cf = xCall N d → xIH p l e R s m args below meth c Q o rt nL ini bytes pcs A D cA ρ0 h0 hE cf scr B vE n → zSt s nL A D cA ρ0 h0 hE ρ H locs cells slots lsA ls st h → xlu xMt o idx = some (274, nest) → decode bytes pc = .ok (.invokestatic idx, 3) → xchk o rt ini bytes pcs (pc + 3) is = true → xnRun cf scr B vE hE n (xStep cf scr B (.invokestatic 274, eN (mOf 274)) is ls st h) → W p l e R s m args below meth c H locs cells slots Q (F0 m pc lsA (st.map (vR ρ)))
theorem u274 : eY (mOf 274) = yL_clause ∧ eN (mOf 274) = 4 ∧ (xMt.all fun e => e.2.2.1 != 274 || e.2.2.2 == 0) = true := by decide +kernel
theorem nest274 {o idx nest : Nat} (hx : xlu xMt o idx = some (274, nest)) : nest = 0 := by
  unfold xlu at hx
  split at hx
  · rename_i q hf
    have hm := List.mem_of_find?_eq_some hf
    have h1 := List.all_eq_true.mp u274.2.2 _ hm
    have hx := Option.some.inj hx
    rw [hx] at h1
    simpa using h1
  · cases hx
theorem lawRule_ok (l : Launch) (hst : l.stackTraces = false) : lawRule2 l := by
  intro p e R s m args below meth c Q o rt nL ini bytes pcs A D cA ρ0 h0 hE scr cf B vE n ρ H locs cells slots pc lsA is ls st h idx nest d N X hAO hEx hzU hzN hd hRf hRl hcf0 IH S hx hdc hc hq
  have hcf : cfMono cf := by rw [hcf0]; exact xCall_mono N d
  obtain ⟨u1, u2, -⟩ := u274
  generalize hn4 : eN (mOf 274) = n4 at hq u2
  clear hn4
  simp only [xStep] at hq
  split at hq
  · rename_i hcs0
    split at hq
    · rename_i v h1 hcall
      have hq : xRun cf scr B n is ls (v.toList ++ st.drop (n4)) h1 = some (vE, hE) := hq
      have hm := hcf _ _ _ _ _ hcall
      have hA1 := free_of X S
      have hroom := room_of X S (xRun_mono hcf _ _ _ _ _ _ _ hq) (a := hC h1 - hC h) (b := hS h1 - hS h) (by have := hm.1; omega) (by have := hm.2.1; omega)
      rw [hcf0] at hcall
      cases d with
      | zero => simp [xCall] at hcall
      | succ d =>
        rw [xCall, if_neg (by decide), if_neg (by decide), if_pos rfl] at hcall
        have M := c_L l hst (xCall_mono N d) (d := d + 5) (fun k vs h v h1 hk hk2 => ((met_all l N h83 (hAm l) d k vs h v h1 hk).2 (by omega)).2) hcall S.2.1 D cA ρ H.size
        have hlen : (((st.take (n4)).reverse).map (vR ρ)).length = 4 := by have := hcs0.2; subst u2; simp; omega
        have hW8 : 2 * (F0 m pc lsA (st.map (vR ρ))).monitorRoom + (((st.drop (n4)).map (vR ρ)).map fun v => v.category).sum ≤ 8 := lv_room (by rw [catS_map]; exact hcs0.1)
        have hI := X.2.2.2.2.1
        have hlk : (Jvm.Cond.methodLink (rn o) idx yL_clause).before args s = true := by rw [← u1]; exact (link_of (args := args) hI hx (by decide)).1 (nest274 hx)
        have hR2 : (LR (d + 5) h h1).frames + 1 ≤ R.frames ∧ 8 + (5 + 11) + (LR (d + 5) h h1).locals ≤ R.locals := by
          unfold LR
          dsimp only
          omega
        have kk := fun (vv : Option Value) (s0 t : State) (H1 : Heap) (locs1 : List Loc) (_ : s0.heap = H) (ht : t.heap = H1) (hp : xPost D cA ρ h H.size v h1 (((st.take (n4)).reverse).map (vR ρ)).toArray s0 (.returned vv) t) (hS1 : va_S A s.heap H1 locs1) => call_next IH S hm (st1 := st.drop (n4)) (fun x hx => List.mem_of_mem_drop hx) hA1 hc hq ht hp hS1
        exact my_call (vx_runSW (hh := [(0, 10, 13, 13)]) (bytes := cL_clause) (maxL := 5) (ret := some .int) (n := 4) ⟨X.1, X.2.1, X.2.2.1, X.2.2.2.1, G_hts hI args⟩ M ⟨⟨rfl, rfl, hR2.1, hR2.2, pay_in (G_hts hI args) (clg (i := 5) rfl), List.mem_cons_self⟩, clq hI (i := 5) rfl _, clq hI (i := 8) rfl _, (by decide), (fun sig h9 => by
          have h8 : (parseMethodDescriptor yL_clause.desc).map (fun d => d.parameters.length) = some 4 := by decide +kernel
          rw [h9] at h8
          exact (Option.some.inj h8).symm), hlk, clq hI (i := 7) rfl _⟩ ⟨ClP.calling, pre_cl X hAO S hEx hzU hzN⟩ rfl hlen S.1.1 (st_split st _) hW8 hdc hroom) S.2.2.2.2.2.2.1 (fun q _ h => hA1 q h) hA1 (fun _ _ _ hp => hp.2) kk
    · exact hq.elim
  · exact hq.elim
set_option maxHeartbeats 1000000 in
theorem law_run2 {p : Program} {e : Env} {s : State} {m : MethodId} {below : List Frame} {meth : Method} {c : Code} (l : Launch) {b L : Nat} {xs : Nat → Int32} (C0 : lw_At p s m meth c b L xs) (h83 : StatOK 83) (hAm : ∀ (d : Nat) (vs : List Value) (h : Hp) (v : Option Value) (h1 : Hp), pAmong vs h = some (v, h1) → xCon l (d + 5) 83 vs h v h1) (hCl : lawRule2 l) {d N : Nat} {H1 : Hp} (hd : d ≤ 1000)
    (hrun : xRun (xCall N d) (some (L, xs)) (blk 275) N (blk 275 0) ls0 [] hp0 = some (some (.int 1), H1)) (hc1 : hC H1 ≤ 601024) (hs1 : hS H1 ≤ 7293034) : W p l e room_1 s m #[Value.ref b] below meth c s.heap [] 0 0 (lw_Z below #[Value.ref b] s) (entryFrame m ([Value.ref b] : List Value).toArray 7) := by
  obtain ⟨hx, hb, hr, hml, hown, hts, hX, hbl, hlocks, hgv⟩ := C0
  have hI := Inv.start hts
  obtain ⟨D, cA, hK⟩ := K_start hts hI
  obtain ⟨a1, a2, a3, hstr⟩ := str_start hts hgv
  have hA9 : ∀ a : Nat, a < s.heap.size → ¬ (fun q : Nat => s.heap.size ≤ q) a := fun a h => Nat.not_le.mpr h
  have hEx : ExW s := ExW.start hts
  have hsf := flat_of_before _ hgv
  have hzU : vx_Zq Bundle.tN "UNASSIGNED_STACK" Bundle.steD (fun q => s.heap.size ≤ q) s s.heap := vx_Zqof (args := #[Value.ref b]) (hts _ (in_tbl (by decide +kernel))) (hts _ (in_tbl (by decide +kernel))) (hsf _ (by decide +kernel)) hA9
  have hzN : vx_Zq Bundle.tN "SUPPRESSED_SENTINEL" Bundle.listD (fun q => s.heap.size ≤ q) s s.heap := vx_Zqof (args := #[Value.ref b]) (hts _ (in_tbl (by decide +kernel))) (hts _ (in_tbl (by decide +kernel))) (hsf _ (by decide +kernel)) hA9
  have hAO : va_AO "DiceLaw$Text" s := va_AO.of (hts _ wO_ok)
  have r0 : (fun a => if a = SCR then b else if a = SCR + 1 then a1 else if a = SCR + 2 then a2 else if a = SCR + 3 then a3 else 0 : Nat → Nat) SCR = b := by simp
  have r1 : (fun a => if a = SCR then b else if a = SCR + 1 then a1 else if a = SCR + 2 then a2 else if a = SCR + 3 then a3 else 0 : Nat → Nat) (SCR + 1) = a1 := by simp
  have r2 : (fun a => if a = SCR then b else if a = SCR + 1 then a1 else if a = SCR + 2 then a2 else if a = SCR + 3 then a3 else 0 : Nat → Nat) (SCR + 2) = a2 := by simp
  have r3 : (fun a => if a = SCR then b else if a = SCR + 1 then a1 else if a = SCR + 2 then a2 else if a = SCR + 3 then a3 else 0 : Nat → Nat) (SCR + 3) = a3 := by simp
  generalize (fun a => if a = SCR then b else if a = SCR + 1 then a1 else if a = SCR + 2 then a2 else if a = SCR + 3 then a3 else 0 : Nat → Nat) = ρ0 at r0 r1 r2 r3
  have hw : WF hp0 := ⟨fun _ _ => rfl, (fun a k b h => by cases h), Nat.zero_le _⟩
  have X : xCtx p room_1 s m meth c 12 7 false code (fun q => s.heap.size ≤ q) D cA ρ0 hp0 H1 (some (L, xs)) := ⟨hx, hb, hml, hown, hI, hK, fun _ h => h, (fun h => by cases h), ⟨by show hC H1 ≤ 0 + 601024; omega, by show hS H1 ≤ 0 + 7293034; omega⟩, hstr ρ0 r1 r2 r3, fun q hq => by
    cases hq
    rw [r0]
    exact ⟨hX, hbl, Nat.not_le.mpr hbl⟩⟩
  have e0 : wsR ρ0 cA hp0 = [] := rfl
  have hl := lv_entry ([Value.ref b] : List Value) (n := 7) (Nat.le_of_ble_eq_true rfl)
  have hlv : lvR ((lg_sl [Value.ref b] ++ List.replicate (7 - (lg_sl [Value.ref b]).length) Slot.unset).toArray) 7 ρ0 ls0 := by
    refine ⟨hl.1, hl.2.1, rfl, fun i v hv => ?_⟩
    match i, hv with
    | 0, hv =>
      have : v = .ref SCR := by cases hv; rfl
      subst this
      show _ = some (Slot.val (.ref (ρ0 SCR)))
      rw [r0]
      exact hl.2.2 (0, .ref b) List.mem_cons_self
    | 1, hv => cases hv
    | 2, hv => cases hv
    | 3, hv => cases hv
    | 4, hv => cases hv
    | 5, hv => cases hv
    | 6, hv => cases hv
    | i + 7, hv => simp [lget, ls0] at hv
  have S : zSt s 7 (fun q => s.heap.size ≤ q) D cA ρ0 hp0 H1 ρ0 s.heap [] 0 0 ((lg_sl [Value.ref b] ++ List.replicate (7 - (lg_sl [Value.ref b]).length) Slot.unset).toArray) ls0 [] hp0 := by
    refine ⟨hlv, hw, (fun _ z => by cases z), fun i x hx => ?_, ?_, ?_, va_S.rf, ⟨fun _ _ => rfl, Nat.le_refl _⟩, rfl, rfl⟩
    · match i, hx with
      | 0, hx => cases hx; exact vOK_ref (Or.inr (Nat.le_refl _))
      | 1, hv => cases hv
      | 2, hv => cases hv
      | 3, hv => cases hv
      | 4, hv => cases hv
      | 5, hv => cases hv
      | 6, hv => cases hv
      | i + 7, hv => simp [lget, ls0] at hv
    · rw [e0]; exact fun k q h => by simp at h
    · rw [e0]; exact ⟨fun i j p q h => by simp at h, fun k q h => by simp at h⟩
  have hEnd : xEnd p l e room_1 s m #[Value.ref b] below meth c (lw_Z below #[Value.ref b] s) 2 7 code (fun q => s.heap.size ≤ q) D cA ρ0 hp0 H1 (some (.int 1)) := by
    intro ρ' H locs cells slots pc lsA ls S'
    refine ⟨fun x hx9 hrt hd9 => ?_, (fun x hx9 => by cases hx9), (fun hx9 => by cases hx9)⟩
    cases hx9
    refine va_forget (fun q hq => S'.2.2.2.2.2.2.1.2.2 q hq) ?_
    have f1 : cells ≤ 601024 := by have h9 := S'.2.2.2.2.2.2.2.2.1; have : hC hp0 = 0 := rfl; omega
    have f2 : slots ≤ 7293034 := by have h9 := S'.2.2.2.2.2.2.2.2.2; have : hS hp0 = 0 := rfl; omega
    refine W.widen (k := 601024) (n := 7293034) f1 f2 ?_
    exact lw_ret hx hb hr hlocks hd9
  have hcs : xcfOK l room_1 (xCall N d) := ⟨d + 5, by show d + 5 + 2 ≤ 2048; omega, by show 49 + 50 * (d + 5 + 1) ≤ 84000; omega, met_all l N h83 hAm d⟩
  have hB : ∀ (b t : Nat), (ePcs (mOf 275))[b]? = some t → xchk 12 2 false code (ePcs (mOf 275)) t (blk 275 b) = true := fun b t q => mOf_blk 275 b t q
  have main := xW (rt := 2) (ini := false) (o := 12) X hAO (xCall_mono N d) hcs ⟨by show 1 ≤ 2048; omega, by show 40 ≤ 84000; omega⟩ hB hEnd h83 (fun n {ρ H locs cells slots pc lsA is ls st h idx nest} IH S hx hd9 hc hq => hCl X hAO hEx hzU hzN hd (by show 2000 ≤ 2048; omega) (by show 80000 ≤ 84000; omega) rfl IH S hx hd9 hc hq) N
  rw [lg_entry_eq]
  exact main _ _ _ _ hrun ρ0 s.heap [] 0 0 0 _ (hB 0 0 (by decide +kernel)) S
