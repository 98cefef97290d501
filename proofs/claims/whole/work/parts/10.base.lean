/-! The abstract heap as the machine's: values, cells, worlds. -/
def vR (ρ : Nat → Nat) (v : Value) : Value := match v with
  | .ref a => .ref (ρ a)
  | w => w
theorem vR_cat (ρ : Nat → Nat) (v : Value) : (vR ρ v).category = v.category := by cases v <;> rfl
def vOK (h : Hp) (v : Value) : Prop := ∀ a, v = .ref a → a < hZ h ∨ SCR ≤ a
def WF (h : Hp) : Prop := (∀ a, hZ h ≤ a → hK h a = 0) ∧ (∀ a k b, hR h a k = some b → b < hZ h ∨ SCR ≤ b) ∧ hZ h ≤ SCR
def agr (h : Hp) (ρ ρ' : Nat → Nat) : Prop := ∀ a, (a < hZ h ∨ SCR ≤ a) → ρ' a = ρ a
def fldR (ρ : Nat → Nat) (h : Hp) (a ci k : Nat) : Value := match tyx ci k with
  | .long => .long (hL h a k)
  | .object _ => va_rf ((hR h a k).map ρ)
  | .array _ => va_rf ((hR h a k).map ρ)
  | _ => .int (hI h a k)
def cellR (ρ : Nat → Nat) (cA : Nat → ClassId) (h : Hp) (a : Nat) : va_E :=
  if hK h a = KI then .inl (cA 0, hN h a, .inl (hI h a))
  else if hK h a = KB then .inl (cA 1, hN h a, .inl (hI h a))
  else if hK h a = KZ then .inl (cA 2, hN h a, .inl (hI h a))
  else if hK h a = KJ then .inl (cA 3, hN h a, .inr (.inl (hL h a)))
  else if hK h a = KT then .inl (cA 4, hN h a, .inr (.inr (.inr (.inr (fun i => (hR h a i).map ρ)))))
  else .inr (hK h a - 1, (List.range (Nx (hK h a - 1))).map (fldR ρ h a (hK h a - 1)))
def wsR (ρ : Nat → Nat) (cA : Nat → ClassId) (h : Hp) : va_W := (List.range (hZ h)).map (fun a => (ρ a, cellR ρ cA h a))
def xty (cA : Nat → ClassId) : List (ClassId × FieldType) := [(cA 0, .int), (cA 1, .byte), (cA 2, .boolean), (cA 3, .long), (cA 4, .object RX8)]
theorem ws_at {ρ : Nat → Nat} {cA : Nat → ClassId} {h : Hp} {a : Nat} (ha : a < hZ h) : (wsR ρ cA h)[a]? = some (ρ a, cellR ρ cA h a) := by
  simp [wsR, ha]
theorem ws_len (ρ : Nat → Nat) (cA : Nat → ClassId) (h : Hp) : (wsR ρ cA h).length = hZ h := by simp [wsR]
theorem rf_agr {h : Hp} {ρ ρ' : Nat → Nat} (hw : WF h) (hg : agr h ρ ρ') (a k : Nat) : (hR h a k).map ρ' = (hR h a k).map ρ := by
  cases hr : hR h a k with
  | none => rfl
  | some b =>
    show some (ρ' b) = some (ρ b)
    rw [hg b (hw.2.1 a k b hr)]
theorem fld_agr {h : Hp} {ρ ρ' : Nat → Nat} (hw : WF h) (hg : agr h ρ ρ') (a ci k : Nat) : fldR ρ' h a ci k = fldR ρ h a ci k := by
  unfold fldR
  rw [rf_agr hw hg]
theorem cell_agr {h : Hp} {ρ ρ' : Nat → Nat} (hw : WF h) (hg : agr h ρ ρ') (cA : Nat → ClassId) (a : Nat) : cellR ρ' cA h a = cellR ρ cA h a := by
  unfold cellR
  have h1 : (fun i => (hR h a i).map ρ') = (fun i => (hR h a i).map ρ) := funext fun i => rf_agr hw hg a i
  have h2 : fldR ρ' h a (hK h a - 1) = fldR ρ h a (hK h a - 1) := funext fun k => fld_agr hw hg a _ k
  rw [h1, h2]
theorem ws_agr {h : Hp} {ρ ρ' : Nat → Nat} (hw : WF h) (hg : agr h ρ ρ') (cA : Nat → ClassId) : wsR ρ' cA h = wsR ρ cA h := by
  unfold wsR
  apply List.map_congr_left
  intro a ha
  rw [cell_agr hw hg, hg a (Or.inl (List.mem_range.mp ha))]
theorem vR_agr {h : Hp} {ρ ρ' : Nat → Nat} (hg : agr h ρ ρ') {v : Value} (hv : vOK h v) : vR ρ' v = vR ρ v := by
  cases v <;> first | rfl | (show Value.ref _ = Value.ref _; rw [hg _ (hv _ rfl)])
theorem vRs_agr {h : Hp} {ρ ρ' : Nat → Nat} (hg : agr h ρ ρ') {vs : List Value} (hv : ∀ v ∈ vs, vOK h v) : vs.map (vR ρ') = vs.map (vR ρ) :=
  List.map_congr_left fun v hm => vR_agr hg (hv v hm)
/-! what one write does to the world -/
theorem ws_set {ρ : Nat → Nat} {cA : Nat → ClassId} {h h' : Hp} {a : Nat} {e : va_E} (ha : a < hZ h) (hz : hZ h' = hZ h) (he : cellR ρ cA h' a = e) (ho : ∀ b, b ≠ a → cellR ρ cA h' b = cellR ρ cA h b) : wsR ρ cA h' = (wsR ρ cA h).set a (ρ a, e) := by
  apply List.ext_getElem?
  intro i
  by_cases hi : i < hZ h
  · by_cases hia : i = a
    · subst hia
      rw [ws_at (by rw [hz]; exact hi), List.getElem?_set_self (by rw [ws_len]; exact hi), he]
    · rw [ws_at (by rw [hz]; exact hi), List.getElem?_set_ne (fun q => hia q.symm), ws_at hi, ho i hia]
  · rw [List.getElem?_eq_none (by rw [ws_len, hz]; omega), List.getElem?_eq_none (by rw [List.length_set, ws_len]; omega)]
theorem up2_o {α : Type} {f : Nat → Nat → α} {a k : Nat} {v : α} {b : Nat} (h : b ≠ a) : up2 f a k v b = f b := by
  funext j
  simp [up2, h]
theorem up2_s {α : Type} (f : Nat → Nat → α) (a k : Nat) (v : α) : up2 f a k v a = va_up (f a) k v := by
  funext j
  simp [up2, va_up]
theorem sI_o {ρ : Nat → Nat} {cA : Nat → ClassId} {h : Hp} {a k : Nat} {v : Int32} {b : Nat} (hb : b ≠ a) : cellR ρ cA (sI h a k v) b = cellR ρ cA h b := by
  have e : hI (sI h a k v) b = hI h b := up2_o hb
  have e2 : fldR ρ (sI h a k v) b (hK h b - 1) = fldR ρ h b (hK h b - 1) := by
    funext j
    unfold fldR
    rw [e]
    rfl
  unfold cellR
  rw [e]
  show (if hK h b = KI then _ else _) = _
  simp only [show hK (sI h a k v) b = hK h b from rfl, e2]
  rfl
theorem sL_o {ρ : Nat → Nat} {cA : Nat → ClassId} {h : Hp} {a k : Nat} {v : Int64} {b : Nat} (hb : b ≠ a) : cellR ρ cA (sL h a k v) b = cellR ρ cA h b := by
  have e : hL (sL h a k v) b = hL h b := up2_o hb
  have e2 : fldR ρ (sL h a k v) b (hK h b - 1) = fldR ρ h b (hK h b - 1) := by
    funext j
    unfold fldR
    rw [e]
    rfl
  unfold cellR
  rw [e]
  simp only [show hK (sL h a k v) b = hK h b from rfl, e2]
  rfl
theorem sR_o {ρ : Nat → Nat} {cA : Nat → ClassId} {h : Hp} {a k : Nat} {v : Option Nat} {b : Nat} (hb : b ≠ a) : cellR ρ cA (sR h a k v) b = cellR ρ cA h b := by
  have e : hR (sR h a k v) b = hR h b := up2_o hb
  have e2 : fldR ρ (sR h a k v) b (hK h b - 1) = fldR ρ h b (hK h b - 1) := by
    funext j
    unfold fldR
    rw [e]
    rfl
  unfold cellR
  rw [e]
  simp only [show hK (sR h a k v) b = hK h b from rfl, e2]
  rfl
theorem upd_up (f : Nat → Int32) (k : Nat) (x : Int32) : va_up f k x = upd f k x := rfl
theorem updL_up (f : Nat → Int64) (k : Nat) (x : Int64) : va_up f k x = vp_updL f k x := rfl
theorem ws_sI_arr {ρ : Nat → Nat} {cA : Nat → ClassId} {h : Hp} {a k : Nat} {v : Int32} (ha : a < hZ h) (t : Nat) (hk : cellR ρ cA h a = .inl (cA t, hN h a, .inl (hI h a))) (ht : (hK h a = KI ∧ t = 0) ∨ (hK h a = KB ∧ t = 1) ∨ (hK h a = KZ ∧ t = 2)) : wsR ρ cA (sI h a k v) = (wsR ρ cA h).set a (ρ a, .inl (cA t, hN h a, .inl (upd (hI h a) k v))) := by
  refine ws_set ha rfl ?_ (fun b hb => sI_o hb)
  have e : hI (sI h a k v) a = upd (hI h a) k v := up2_s _ _ _ _
  unfold cellR
  rw [e]
  simp only [show hK (sI h a k v) a = hK h a from rfl, show hN (sI h a k v) a = hN h a from rfl]
  rcases ht with ⟨q, rfl⟩ | ⟨q, rfl⟩ | ⟨q, rfl⟩ <;> simp [q, KI, KB, KZ]
theorem ws_sL_arr {ρ : Nat → Nat} {cA : Nat → ClassId} {h : Hp} {a k : Nat} {v : Int64} (ha : a < hZ h) (ht : hK h a = KJ) : wsR ρ cA (sL h a k v) = (wsR ρ cA h).set a (ρ a, .inl (cA 3, hN h a, .inr (.inl (vp_updL (hL h a) k v)))) := by
  refine ws_set ha rfl ?_ (fun b hb => sL_o hb)
  have e : hL (sL h a k v) a = vp_updL (hL h a) k v := up2_s _ _ _ _
  unfold cellR
  rw [e]
  simp only [show hK (sL h a k v) a = hK h a from rfl, show hN (sL h a k v) a = hN h a from rfl]
  simp [ht, KI, KB, KZ, KJ]
theorem ws_sR_arr {ρ : Nat → Nat} {cA : Nat → ClassId} {h : Hp} {a k b : Nat} (ha : a < hZ h) (ht : hK h a = KT) : wsR ρ cA (sR h a k (some b)) = (wsR ρ cA h).set a (ρ a, .inl (cA 4, hN h a, .inr (.inr (.inr (.inr (va_up (fun i => (hR h a i).map ρ) k (some (ρ b)))))))) := by
  refine ws_set ha rfl ?_ (fun b hb => sR_o hb)
  have e : hR (sR h a k (some b)) a = va_up (hR h a) k (some b) := up2_s _ _ _ _
  have e2 : (fun i => (va_up (hR h a) k (some b) i).map ρ) = va_up (fun i => (hR h a i).map ρ) k (some (ρ b)) := by
    funext i
    by_cases hi : i = k <;> simp [va_up, hi]
  unfold cellR
  rw [e, e2]
  simp only [show hK (sR h a k (some b)) a = hK h a from rfl, show hN (sR h a k (some b)) a = hN h a from rfl]
  simp [ht, KI, KB, KZ, KJ, KT]
theorem cell_obj {ρ : Nat → Nat} {cA : Nat → ClassId} {h : Hp} {a ci : Nat} (hc : ci < 12) (hk : hK h a = ci + 1) : cellR ρ cA h a = .inr (ci, (List.range (Nx ci)).map (fldR ρ h a ci)) := by
  unfold cellR
  simp only [hk, KI, KB, KZ, KJ, KT]
  rw [if_neg (by omega), if_neg (by omega), if_neg (by omega), if_neg (by omega), if_neg (by omega)]
  rfl
theorem rng_set {N k : Nat} {f g : Nat → Value} {v : Value} (hk : k < N) (hv : g k = v) (ho : ∀ j, j ≠ k → g j = f j) : (List.range N).map g = ((List.range N).map f).set k v := by
  apply List.ext_getElem?
  intro i
  by_cases hi : i < N
  · by_cases hik : i = k
    · subst hik
      rw [List.getElem?_set_self (by simpa using hi)]
      simp [hi, hv]
    · rw [List.getElem?_set_ne (fun q => hik q.symm)]
      simp [hi, ho i hik]
  · rw [List.getElem?_eq_none (by simp; omega), List.getElem?_eq_none (by simp; omega)]
theorem ws_obj {ρ : Nat → Nat} {cA : Nat → ClassId} {h h' : Hp} {a ci k : Nat} {v : Value} (ha : a < hZ h) (hz : hZ h' = hZ h) (hc : ci < 12) (hk : k < Nx ci) (hka : hK h a = ci + 1) (hkk : hK h' a = hK h a) (hv : fldR ρ h' a ci k = v) (hf : ∀ j, j ≠ k → fldR ρ h' a ci j = fldR ρ h a ci j) (ho : ∀ b, b ≠ a → cellR ρ cA h' b = cellR ρ cA h b) : wsR ρ cA h' = (wsR ρ cA h).set a (ρ a, .inr (ci, ((List.range (Nx ci)).map (fldR ρ h a ci)).set k v)) := by
  refine ws_set ha hz ?_ ho
  rw [cell_obj hc (hkk.trans hka), rng_set hk hv hf]
theorem ws_sI_obj {ρ : Nat → Nat} {cA : Nat → ClassId} {h : Hp} {a ci k : Nat} {v : Int32} (ha : a < hZ h) (hc : ci < 12) (hk : k < Nx ci) (hka : hK h a = ci + 1) (hty : tyx ci k = .int ∨ tyx ci k = .boolean) : wsR ρ cA (sI h a k v) = (wsR ρ cA h).set a (ρ a, .inr (ci, ((List.range (Nx ci)).map (fldR ρ h a ci)).set k (.int v))) := by
  refine ws_obj ha rfl hc hk hka rfl ?_ (fun j hj => ?_) (fun b hb => sI_o hb)
  · have e : hI (sI h a k v) a k = v := by show up2 _ _ _ _ _ _ = _; simp [up2]
    unfold fldR
    rcases hty with q | q <;> simp only [q, e]
  · have e : hI (sI h a k v) a j = hI h a j := by show up2 _ _ _ _ _ _ = _; simp [up2, hj]; rfl
    unfold fldR
    rw [e]
    rfl
theorem ws_sL_obj {ρ : Nat → Nat} {cA : Nat → ClassId} {h : Hp} {a ci k : Nat} {v : Int64} (ha : a < hZ h) (hc : ci < 12) (hk : k < Nx ci) (hka : hK h a = ci + 1) (hty : tyx ci k = .long) : wsR ρ cA (sL h a k v) = (wsR ρ cA h).set a (ρ a, .inr (ci, ((List.range (Nx ci)).map (fldR ρ h a ci)).set k (.long v))) := by
  refine ws_obj ha rfl hc hk hka rfl ?_ (fun j hj => ?_) (fun b hb => sL_o hb)
  · have e : hL (sL h a k v) a k = v := by show up2 _ _ _ _ _ _ = _; simp [up2]
    unfold fldR
    simp only [hty, e]
  · have e : hL (sL h a k v) a j = hL h a j := by show up2 _ _ _ _ _ _ = _; simp [up2, hj]; rfl
    unfold fldR
    rw [e]
    rfl
theorem ws_sR_obj {ρ : Nat → Nat} {cA : Nat → ClassId} {h : Hp} {a ci k b : Nat} (ha : a < hZ h) (hc : ci < 12) (hk : k < Nx ci) (hka : hK h a = ci + 1) (hty : (∃ C, tyx ci k = .object C) ∨ ∃ t, tyx ci k = .array t) : wsR ρ cA (sR h a k (some b)) = (wsR ρ cA h).set a (ρ a, .inr (ci, ((List.range (Nx ci)).map (fldR ρ h a ci)).set k (.ref (ρ b)))) := by
  refine ws_obj ha rfl hc hk hka rfl ?_ (fun j hj => ?_) (fun b hb => sR_o hb)
  · have e : hR (sR h a k (some b)) a k = some b := by show up2 _ _ _ _ _ _ = _; simp [up2]
    unfold fldR
    rcases hty with ⟨C, q⟩ | ⟨t, q⟩ <;> simp only [q, e] <;> rfl
  · have e : hR (sR h a k (some b)) a j = hR h a j := by show up2 _ _ _ _ _ _ = _; simp [up2, hj]; rfl
    unfold fldR
    rw [e]
    rfl
/-! a new cell -/
theorem agr_new {h : Hp} {ρ : Nat → Nat} {q : Nat} (hlt : hZ h < SCR) : agr h ρ (va_up ρ (hZ h) q) := by
  intro a ha
  have : a ≠ hZ h := by rcases ha with h1 | h1 <;> omega
  simp [va_up, this]
theorem cell_new_o {ρ : Nat → Nat} {cA : Nat → ClassId} {h : Hp} {kd n sl q : Nat} (hw : WF h) (hlt : hZ h < SCR) {b : Nat} (hb : b < hZ h) : cellR (va_up ρ (hZ h) q) cA (hNew h kd n sl) b = cellR ρ cA h b := by
  have hne : b ≠ hZ h := by omega
  have hg := agr_new (q := q) (ρ := ρ) hlt
  rw [← cell_agr hw hg]
  have e1 : hK (hNew h kd n sl) b = hK h b := by simp [hK, hNew, va_up, hne]
  have e2 : hN (hNew h kd n sl) b = hN h b := by simp [hN, hNew, va_up, hne]
  have e3 : hI (hNew h kd n sl) b = hI h b := by funext j; simp [hI, hNew, hne]
  have e4 : hL (hNew h kd n sl) b = hL h b := by funext j; simp [hL, hNew, hne]
  have e5 : hR (hNew h kd n sl) b = hR h b := by funext j; simp [hR, hNew, hne]
  unfold cellR fldR
  rw [e1, e2, e3, e4, e5]
theorem ws_new {ρ : Nat → Nat} {cA : Nat → ClassId} {h : Hp} {kd n sl q : Nat} (hw : WF h) (hlt : hZ h < SCR) : wsR (va_up ρ (hZ h) q) cA (hNew h kd n sl) = wsR ρ cA h ++ [(q, cellR (va_up ρ (hZ h) q) cA (hNew h kd n sl) (hZ h))] := by
  unfold wsR
  rw [show hZ (hNew h kd n sl) = hZ h + 1 from rfl, List.range_succ, List.map_append]
  congr 1
  · apply List.map_congr_left
    intro a ha
    have ha := List.mem_range.mp ha
    rw [cell_new_o hw hlt ha, show va_up ρ (hZ h) q a = ρ a from by simp [va_up]; omega]
  · simp [va_up]
theorem new_k (h : Hp) (kd n sl : Nat) : hK (hNew h kd n sl) (hZ h) = kd := by simp [hK, hNew, va_up]
theorem new_n (h : Hp) (kd n sl : Nat) : hN (hNew h kd n sl) (hZ h) = n := by simp [hN, hNew, va_up]
theorem new_i (h : Hp) (kd n sl : Nat) : hI (hNew h kd n sl) (hZ h) = fun _ => 0 := by funext j; simp [hI, hNew]
theorem new_l (h : Hp) (kd n sl : Nat) : hL (hNew h kd n sl) (hZ h) = fun _ => 0 := by funext j; simp [hL, hNew]
theorem new_r (h : Hp) (kd n sl : Nat) : hR (hNew h kd n sl) (hZ h) = fun _ => none := by funext j; simp [hR, hNew]
def tyOK (t : FieldType) : Bool := match t with
  | .int => true
  | .boolean => true
  | .long => true
  | .object _ => true
  | .array _ => true
  | _ => false
theorem tyx_OK : ∀ ci, ci < 12 → ∀ k, k < Nx ci → tyOK (tyx ci k) = true := by decide +kernel
theorem new_obj {ρ : Nat → Nat} {cA : Nat → ClassId} {h : Hp} {ci sl : Nat} (hc : ci < 12) : cellR ρ cA (hNew h (ci + 1) 0 sl) (hZ h) = .inr (ci, (List.range (Nx ci)).map (fun j => defaultValue (tyx ci j))) := by
  rw [cell_obj hc (new_k _ _ _ _)]
  congr 2
  apply List.map_congr_left
  intro j hj
  have hk := tyx_OK ci hc j (List.mem_range.mp hj)
  unfold fldR
  rw [new_i, new_l, new_r]
  cases ht : tyx ci j <;> rw [ht] at hk <;> first | rfl | (exact absurd hk (by decide))
theorem new_arr {ρ : Nat → Nat} {cA : Nat → ClassId} {h : Hp} {n sl : Nat} :
    cellR ρ cA (hNew h KI n sl) (hZ h) = .inl (cA 0, n, .inl (fun _ => 0)) ∧ cellR ρ cA (hNew h KB n sl) (hZ h) = .inl (cA 1, n, .inl (fun _ => 0)) ∧ cellR ρ cA (hNew h KZ n sl) (hZ h) = .inl (cA 2, n, .inl (fun _ => 0)) ∧ cellR ρ cA (hNew h KJ n sl) (hZ h) = .inl (cA 3, n, .inr (.inl (fun _ => 0))) ∧ cellR ρ cA (hNew h KT n sl) (hZ h) = .inl (cA 4, n, .inr (.inr (.inr (.inr (fun _ => none))))) := by
  unfold cellR
  simp only [new_k, new_n, new_i, new_l, new_r]
  simp [KI, KB, KZ, KJ, KT]
/-! well-formed heaps stay so -/
theorem WF.sI {h : Hp} {a k : Nat} {v : Int32} (hw : WF h) : WF (sI h a k v) := hw
theorem WF.sL {h : Hp} {a k : Nat} {v : Int64} (hw : WF h) : WF (sL h a k v) := hw
theorem WF.sR {h : Hp} {a k b : Nat} (hw : WF h) (hb : b < hZ h ∨ SCR ≤ b) : WF (sR h a k (some b)) := by
  refine ⟨hw.1, fun a' k' b' hr => ?_, hw.2.2⟩
  have hr : up2 (hR h) a k (some b) a' k' = some b' := hr
  unfold up2 at hr
  split at hr
  · cases hr; exact hb
  · exact hw.2.1 a' k' b' hr
theorem WF.new {h : Hp} {kd n sl : Nat} (hw : WF h) (hlt : hZ h < SCR) : WF (hNew h kd n sl) := by
  refine ⟨fun a ha => ?_, fun a k b hr => ?_, ?_⟩
  · have ha : hZ h + 1 ≤ a := ha
    show va_up (hK h) (hZ h) kd a = 0
    simp only [va_up]
    rw [if_neg (by omega)]
    exact hw.1 a (by omega)
  · have hr : (if a = hZ h then none else hR h a k) = some b := hr
    split at hr
    · cases hr
    · rcases hw.2.1 a k b hr with q | q
      · exact Or.inl (Nat.lt_succ_of_lt q)
      · exact Or.inr q
  · show hZ h + 1 ≤ SCR
    omega
theorem vOK.mono {h h' : Hp} (hz : hZ h ≤ hZ h') {v : Value} (hv : vOK h v) : vOK h' v := fun a e => (hv a e).elim (fun q => Or.inl (Nat.lt_of_lt_of_le q hz)) Or.inr
theorem kd_lt {h : Hp} (hw : WF h) {a : Nat} (hk : hK h a ≠ 0) : a < hZ h := by
  rcases Nat.lt_or_ge a (hZ h) with q | q
  · exact q
  · exact absurd (hw.1 a q) hk
