/-! A call of an instance method out of a frame that is walked by hand. -/
section
variable {p : Program} {l : Launch} {e : Env} {R : Room} {s : State} {m : MethodId} {args : Array Value} {below : List Frame} {meth : Method} {c : Code} {Q : State → Prop} {o nL : Nat} {ini : Bool} {bytes : ByteArray} {A : Nat → Prop} {D : va_G} {cA : Nat → ClassId} {ρ0 : Nat → Nat} {h0 hE : Hp} {scr : Option (Nat × (Nat → Int32))}
theorem hand_v (X : xCtx p R s m meth c o nL ini bytes A D cA ρ0 h0 hE scr) {ρ : Nat → Nat} {H : Heap} {locs : List Loc} {cells slots pc : Nat} {lsA : Array Slot} {ls : LL} {h h1 : Hp} {v : Option Value} {a : Nat} {vs rest : List Value} (S : zSt s nL A D cA ρ0 h0 hE ρ H locs cells slots lsA ls (vs.reverse ++ .ref a :: rest) h) (hAO : va_AO "DiceLaw$Text" s) {idx k d : Nat} (hlk : va_Nw (.methodLinkNest (rn o) idx (eY (mOf k)) "DiceLaw") s) (hst : eSt (mOf k) = 1) (hl : eY (mOf k) ≠ yL_law) (M : xCon l d k (.ref a :: vs) h v h1) (hn0 : eN (mOf k) = vs.length + 1) (hcat : catS rest ≤ 8) (hka : hK h a = eOwn (mOf k) + 1) (hm : le3 h h1) (hm2 : le3 h1 hE) (hd1 : d + 2 ≤ R.frames) (hd2 : 49 + 50 * (d + 1) ≤ R.locals) (hd : decode bytes pc = .ok (.invokevirtual idx, 3))
    (kk : ∀ (ρ' : Nat → Nat) (H1 : Heap) (locs1 : List Loc), agr h ρ ρ' → zSt s nL A D cA ρ0 h0 hE ρ' H1 locs1 (cells + (hC h1 - hC h)) (slots + (hS h1 - hS h)) lsA ls (v.toList ++ rest) h1 → W p l e R s m args below meth c H1 locs1 (cells + (hC h1 - hC h)) (slots + (hS h1 - hS h)) Q (F0 m (pc + 3) lsA ((v.toList ++ rest).map (vR ρ')))) : W p l e R s m args below meth c H locs cells slots Q (F0 m pc lsA ((vs.reverse ++ .ref a :: rest).map (vR ρ))) := by
  have hOK : ∀ x ∈ (Value.ref a :: vs), vOK h x := fun x hx => S.2.2.1 x (by
    rcases List.mem_cons.mp hx with rfl | q
    · exact List.mem_append_right _ List.mem_cons_self
    · exact List.mem_append_left _ (List.mem_reverse.mpr q))
  have hrs : ∀ x ∈ rest, vOK h x := fun x hx => S.2.2.1 x (List.mem_append_right _ (List.mem_cons_of_mem _ hx))
  have M := M S.2.1 hOK D cA ρ H.size
  have hA1 := free_of X S
  have hroom := room_of X S hm2 (a := hC h1 - hC h) (b := hS h1 - hS h) (by have := hm.1; omega) (by have := hm.2.1; omega)
  have h3 : eSt (mOf k) ≠ 3 := by omega
  obtain ⟨f1, f2, f3, f4, f5, f6, f7, f8, f9⟩ := gfact h3 hl
  obtain ⟨g1, g2⟩ := gcode h3 hl
  have g2 := List.mem_filter.mp g2
  have hci : eOwn (mOf k) < 12 := (wR_ok k).2 (by omega)
  have hlen : (vs.map (vR ρ)).length = vs.length := by simp
  have hpar : (parseMethodDescriptor (eY (mOf k)).desc).map (fun d => d.parameters.length) = some vs.length := by
    rw [if_neg (by omega)] at f4
    exact par_of (w := 1) (by rw [f4, hn0])
  have g4 : (eY (mOf k)).cls ≠ "java/lang/invoke/MethodHandle" ∧ (eY (mOf k)).cls ≠ "java/lang/invoke/VarHandle" ∧ (parseMethodDescriptor (eY (mOf k)).desc).map (fun d => d.parameters.length) = some vs.length := ⟨f8, f9, hpar⟩
  have hR : (xRoom d h h1).frames + 1 ≤ R.frames ∧ 8 + (eL (mOf k) + 11) + (xRoom d h h1).locals ≤ R.locals := ⟨hd1, by show 8 + (eL (mOf k) + 11) + 50 * (d + 1) ≤ _; omega⟩
  have hW8 : 2 * (F0 m pc lsA ((vs.reverse ++ .ref a :: rest).map (vR ρ))).monitorRoom + ((rest.map (vR ρ)).map fun v => v.category).sum ≤ 8 := lv_room (by rw [catS_map]; exact hcat)
  have hstk : (vs.reverse ++ .ref a :: rest).map (vR ρ) = (vs.map (vR ρ)).reverse ++ .ref (ρ a) :: rest.map (vR ρ) := by simp [vR]
  have hrec : ∃ cell : Cell, H[ρ a]? = some cell ∧ cell.vm.isStatics = false ∧ s.vm.findClass (rn (eOwn (mOf k))) = some cell.cls := va_recv X.2.2.2.2.2.1 S.2.2.2.2.1 (xcl_at hci) (ws_c S.2.1 (by omega) (cell_obj hci hka))
  have kk2 : ∀ (vv : Option Value) (s0 t : State) (H1 : Heap) (locs1 : List Loc), s0.heap = H → t.heap = H1 → xPost D cA ρ h H.size v h1 (Value.ref (ρ a) :: vs.map (vR ρ)).toArray s0 (.returned vv) t → va_S A s.heap H1 locs1 → W p l e R s m args below meth c H1 locs1 (cells + (hC h1 - hC h)) (slots + (hS h1 - hS h)) Q (F0 m (pc + 3) lsA (vv.toList ++ rest.map (vR ρ))) := by
    intro vv s0 t H1 locs1 _ ht hp hS1
    obtain ⟨⟨ρ', e1, hk, hg, hw1, hP1, hD1⟩, -⟩ := hp
    cases e1
    rw [ht] at hP1
    have hv : ∀ x ∈ v.toList, vOK h1 x ∧ vR ρ' x = x := by
      intro x hx
      have hx' : v = some x := by simpa using hx
      rcases hk x hx' with ⟨i, rfl⟩ | ⟨i, rfl⟩
      · exact ⟨vOK_int _, rfl⟩
      · exact ⟨vOK_long _, rfl⟩
    have K := kk ρ' H1 locs1 hg
      ⟨S.1.moved hg S.2.2.2.1, hw1, fun x hx => by
        rcases List.mem_append.mp hx with q | q
        · exact (hv x q).1
        · exact (hrs x q).mono hm.2.2,
       fun i x hx => (S.2.2.2.1 i x hx).mono hm.2.2, hP1, hD1.weaken (fun _ q _ z => hA1 q.1 z), hS1,
       ⟨fun q hq => by rw [hg q (hq.elim (fun z => Or.inl (Nat.lt_of_lt_of_le z S.2.2.2.2.2.2.2.1.2)) Or.inr)]; exact S.2.2.2.2.2.2.2.1.1 q hq, Nat.le_trans S.2.2.2.2.2.2.2.1.2 hm.2.2⟩,
       by have := S.2.2.2.2.2.2.2.2.1; have := hm.1; omega, by have := S.2.2.2.2.2.2.2.2.2; have := hm.2.1; omega⟩
    refine W.eq ?_ K
    rw [List.map_append, vRs_agr hg hrs, show v.toList.map (vR ρ') = v.toList from by
      conv => rhs; rw [← List.map_id v.toList]
      exact List.map_congr_left fun x hx => (hv x hx).2]
  have gi := ginst hst hl
  exact my_call (va_runVN ⟨X.1, X.2.1, X.2.2.1, X.2.2.2.1, G_hts X.2.2.2.2.1 args⟩ M ⟨va_cnB vs.length (G_hts X.2.2.2.2.1 args) g1 rfl rfl rfl hlk (gw X g2.1 g2.2) g4 hR, gw X gi.1.1 gi.1.2, by rw [← f1]; exact gw X gi.2.1 gi.2.2⟩ ⟨xPre.calling, hrec, pre_of X hAO S hA1⟩ rfl hlen S.1.1 hstk hW8 hd hroom) S.2.2.2.2.2.2.1 (fun q _ h => hA1 q h) hA1 (fun _ _ _ hp => hp.2) kk2
end
