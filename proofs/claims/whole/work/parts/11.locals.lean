/-! The abstract locals as the machine's. -/
def lvR (lsA : Array Slot) (nL : Nat) (ρ : Nat → Nat) (ls : LL) : Prop := lsA.size = nL ∧ lv_wf lsA ∧ ls.length = nL ∧ ∀ (i : Nat) (v : Value), lget ls i = some v → lsA[i]? = some (.val (vR ρ v))
def prs (ρ : Nat → Nat) (ls : LL) : List (Nat × Value) := (List.range ls.length).filterMap (fun i => (lget ls i).map (fun v => (i, vR ρ v)))
theorem prs_mem {ρ : Nat → Nat} {ls : LL} {q : Nat × Value} : q ∈ prs ρ ls ↔ ∃ v, lget ls q.1 = some v ∧ q.2 = vR ρ v := by
  unfold prs
  rw [List.mem_filterMap]
  constructor
  · rintro ⟨i, hi, he⟩
    cases hv : lget ls i with
    | none => rw [hv] at he; cases he
    | some v =>
      rw [hv] at he
      cases he
      exact ⟨v, hv, rfl⟩
  · rintro ⟨v, hv, he⟩
    refine ⟨q.1, ?_, ?_⟩
    · rw [List.mem_range]
      unfold lget at hv
      split at hv
      · rename_i h
        exact (List.getElem?_eq_some_iff.mp h).1
      · cases hv
    · rw [hv]
      show some (q.1, vR ρ v) = some q
      rw [← he]
theorem lvR.has {lsA : Array Slot} {nL : Nat} {ρ : Nat → Nat} {ls : LL} (h : lvR lsA nL ρ ls) : lv_has lsA nL (prs ρ ls) := by
  refine ⟨h.1, h.2.1, fun q hq => ?_⟩
  obtain ⟨v, hv, he⟩ := prs_mem.mp hq
  rw [he]
  exact h.2.2.2 _ v hv
theorem lset1_len : ∀ (ls : LL) (i : Nat) (v : Value), (lset1 ls i v).length = ls.length
  | [], _, _ => rfl
  | _ :: _, 0, _ => rfl
  | x :: xs, i + 1, v => by simp [lset1, lset1_len xs i v]
theorem lclr_len : ∀ (ls : LL) (i : Nat), (lclr ls i).length = ls.length
  | [], _ => rfl
  | _ :: _, 0 => rfl
  | x :: xs, i + 1 => by simp [lclr, lclr_len xs i]
theorem lget_cons0 (x : Option Value) (xs : LL) : lget (x :: xs) 0 = x := by cases x <;> rfl
theorem lget_cons (x : Option Value) (xs : LL) (i : Nat) : lget (x :: xs) (i + 1) = lget xs i := rfl
theorem isL_cat {v : Value} (h : v.category = 2) : isL (some v) = true := by cases v <;> first | rfl | (simp [Value.category] at h)
/-- what a written local leaves of the others -/
theorem lset1_get : ∀ (ls : LL) (i : Nat) (v : Value) (j : Nat) (w : Value), lget (lset1 ls i v) j = some w → (j = i ∧ w = v) ∨ (j ≠ i ∧ lget ls j = some w ∧ ¬ (j + 1 = i ∧ w.category = 2))
  | [], _, _, j, w, h => by simp [lset1, lget] at h
  | x :: xs, 0, v, j, w, h => by
    cases j with
    | zero =>
      rw [lset1, lget_cons0] at h
      cases h
      exact Or.inl ⟨rfl, rfl⟩
    | succ j =>
      rw [lset1, lget_cons] at h
      exact Or.inr ⟨by omega, by rw [lget_cons]; exact h, by omega⟩
  | x :: xs, i + 1, v, j, w, h => by
    cases j with
    | zero =>
      rw [lset1, lget_cons0] at h
      refine Or.inr ⟨by omega, ?_, ?_⟩
      · rw [lget_cons0]
        split at h
        · cases h
        · exact h
      · rintro ⟨q1, q2⟩
        have hi : i = 0 := by omega
        split at h
        · cases h
        · rename_i hn
          rw [h] at hn
          exact hn ⟨hi, isL_cat q2⟩
    | succ j =>
      rw [lset1, lget_cons] at h
      rcases lset1_get xs i v j w h with ⟨a, b⟩ | ⟨a, b, c⟩
      · exact Or.inl ⟨by omega, b⟩
      · exact Or.inr ⟨by omega, by rw [lget_cons]; exact b, fun q => c ⟨by omega, q.2⟩⟩
theorem lclr_get : ∀ (ls : LL) (i j : Nat) (w : Value), lget (lclr ls i) j = some w → j ≠ i ∧ lget ls j = some w
  | [], _, j, w, h => by simp [lclr, lget] at h
  | x :: xs, 0, j, w, h => by
    cases j with
    | zero => rw [lclr, lget_cons0] at h; cases h
    | succ j => exact ⟨by omega, h⟩
  | x :: xs, i + 1, j, w, h => by
    cases j with
    | zero =>
      rw [lclr, lget_cons0] at h
      exact ⟨by omega, by rw [lget_cons0]; exact h⟩
    | succ j =>
      rw [lclr, lget_cons] at h
      have := lclr_get xs i j w h
      exact ⟨by omega, by rw [lget_cons]; exact this.2⟩
theorem lvR.set1 {lsA : Array Slot} {nL : Nat} {ρ : Nat → Nat} {ls : LL} {i : Nat} {v : Value} (h : lvR lsA nL ρ ls) {lsB : Array Slot} (hb : lv_has lsB nL ((i, vR ρ v) :: (prs ρ ls).filter (fun q => !(q.1 == i) && !(q.1 + 1 == i && q.2.category == 2)))) : lvR lsB nL ρ (lset1 ls i v) := by
  refine ⟨hb.1, hb.2.1, by rw [lset1_len]; exact h.2.2.1, fun j w hj => ?_⟩
  rcases lset1_get ls i v j w hj with ⟨rfl, rfl⟩ | ⟨a, b, c⟩
  · exact hb.2.2 _ List.mem_cons_self
  · refine hb.2.2 (j, vR ρ w) (List.mem_cons_of_mem _ (List.mem_filter.mpr ⟨prs_mem.mpr ⟨w, b, rfl⟩, ?_⟩))
    simp only [Bool.and_eq_true, Bool.not_eq_true', beq_eq_false_iff_ne, ne_eq, Bool.and_eq_false_iff, vR_cat]
    refine ⟨a, ?_⟩
    by_cases q : j + 1 = i
    · exact Or.inr (fun z => c ⟨q, z⟩)
    · exact Or.inl q
theorem lvR.set2 {lsA : Array Slot} {nL : Nat} {ρ : Nat → Nat} {ls : LL} {i : Nat} {v : Value} (h : lvR lsA nL ρ ls) {lsB : Array Slot} (hb : lv_has lsB nL ((i, vR ρ v) :: (prs ρ ls).filter (fun q => !(q.1 == i) && (!(q.1 == i + 1) && !(q.1 + 1 == i && q.2.category == 2))))) : lvR lsB nL ρ (lclr (lset1 ls i v) (i + 1)) := by
  refine ⟨hb.1, hb.2.1, by rw [lclr_len, lset1_len]; exact h.2.2.1, fun j w hj => ?_⟩
  obtain ⟨n1, hj⟩ := lclr_get _ _ _ _ hj
  rcases lset1_get ls i v j w hj with ⟨rfl, rfl⟩ | ⟨a, b, c⟩
  · exact hb.2.2 _ List.mem_cons_self
  · refine hb.2.2 (j, vR ρ w) (List.mem_cons_of_mem _ (List.mem_filter.mpr ⟨prs_mem.mpr ⟨w, b, rfl⟩, ?_⟩))
    simp only [Bool.and_eq_true, Bool.not_eq_true', beq_eq_false_iff_ne, ne_eq, Bool.and_eq_false_iff, vR_cat]
    refine ⟨a, n1, ?_⟩
    by_cases q : j + 1 = i
    · exact Or.inr (fun z => c ⟨q, z⟩)
    · exact Or.inl q
theorem lvR.moved {lsA : Array Slot} {nL : Nat} {ρ ρ' : Nat → Nat} {ls : LL} {h : Hp} (hl : lvR lsA nL ρ ls) (hg : agr h ρ ρ') (hv : ∀ i v, lget ls i = some v → vOK h v) : lvR lsA nL ρ' ls :=
  ⟨hl.1, hl.2.1, hl.2.2.1, fun i v hi => by rw [vR_agr hg (hv i v hi)]; exact hl.2.2.2 i v hi⟩
/-- values of locals that a store keeps well -/
theorem lset1_ok {h : Hp} {ls : LL} {i : Nat} {v : Value} (hv : vOK h v) (hl : ∀ j w, lget ls j = some w → vOK h w) : ∀ j w, lget (lset1 ls i v) j = some w → vOK h w := by
  intro j w hj
  rcases lset1_get ls i v j w hj with ⟨-, rfl⟩ | ⟨-, b, -⟩
  · exact hv
  · exact hl j w b
theorem lclr_ok {h : Hp} {ls : LL} {i : Nat} (hl : ∀ j w, lget ls j = some w → vOK h w) : ∀ j w, lget (lclr ls i) j = some w → vOK h w := fun j w hj => hl j w (lclr_get _ _ _ _ hj).2
theorem vOK_int {h : Hp} (x : Int32) : vOK h (.int x) := fun a e => by cases e
theorem vOK_long {h : Hp} (x : Int64) : vOK h (.long x) := fun a e => by cases e
theorem vOK_null {h : Hp} : vOK h .null := fun a e => by cases e
theorem vOK_ref {h : Hp} {b : Nat} (hb : b < hZ h ∨ SCR ≤ b) : vOK h (.ref b) := fun a e => by cases e; exact hb
theorem vOK_rf {h : Hp} (hw : WF h) (a k : Nat) : vOK h (va_rf (hR h a k)) := by
  cases hr : hR h a k with
  | none => exact vOK_null
  | some b => exact vOK_ref (hw.2.1 a k b hr)
theorem vR_rf (ρ : Nat → Nat) (r : Option Nat) : vR ρ (va_rf r) = va_rf (r.map ρ) := by cases r <;> rfl
