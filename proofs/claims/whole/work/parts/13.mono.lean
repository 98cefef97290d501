/-! What a step leaves: counts never fall. -/
def le3 (h h' : Hp) : Prop := hC h ≤ hC h' ∧ hS h ≤ hS h' ∧ hZ h ≤ hZ h'
theorem le3.rf (h : Hp) : le3 h h := ⟨Nat.le_refl _, Nat.le_refl _, Nat.le_refl _⟩
theorem le3.tr {a b c : Hp} (h1 : le3 a b) (h2 : le3 b c) : le3 a c := ⟨Nat.le_trans h1.1 h2.1, Nat.le_trans h1.2.1 h2.2.1, Nat.le_trans h1.2.2 h2.2.2⟩
theorem le3.new (h : Hp) (kd n sl : Nat) : le3 h (hNew h kd n sl) := ⟨Nat.le_succ _, Nat.le_add_right _ _, Nat.le_succ _⟩
def cfMono (cf : Nat → List Value → Hp → Option XR) : Prop := ∀ (k : Nat) (vs : List Value) (h : Hp) (v : Option Value) (h1 : Hp), cf k vs h = some (v, h1) → le3 h h1
def xnMono (h : Hp) (q : XN) : Prop := match q with
  | some (.inl r) => le3 h r.2.2.2
  | some (.inr r) => le3 h r.2
  | none => True
theorem xStep_mono {cf : Nat → List Value → Hp → Option XR} {scr : Option (Nat × (Nat → Int32))} {B : Nat → List XI} {x : XI} {is : List XI} {ls : LL} {st : List Value} {h : Hp} (hcf : cfMono cf) : xnMono h (xStep cf scr B x is ls st h) := by
  have r : le3 h h := le3.rf h
  obtain ⟨i, k⟩ := x
  cases i <;> simp only [xStep] <;> first
    | exact trivial
    | exact r
    | exact le3.new _ _ _ _
    | (unfold x2i; split <;> first | exact r | exact trivial)
    | (unfold x2l; split <;> first | exact r | exact trivial)
    | (split <;> first
        | exact r
        | exact trivial
        | exact le3.new _ _ _ _
        | (split <;> first
            | exact r
            | exact trivial
            | exact le3.new _ _ _ _
            | exact hcf _ _ _ _ _ (by assumption)
            | (split <;> first
                | exact r
                | exact trivial
                | exact le3.new _ _ _ _
                | exact hcf _ _ _ _ _ (by assumption)
                | (split <;> first
                    | exact r
                    | exact trivial
                    | exact le3.new _ _ _ _
                    | (split <;> first
                        | exact r
                        | exact trivial)
                    | exact hcf _ _ _ _ _ (by assumption)))))
theorem xRun_mono {cf : Nat → List Value → Hp → Option XR} {scr : Option (Nat × (Nat → Int32))} {B : Nat → List XI} (hcf : cfMono cf) : ∀ (n : Nat) (is : List XI) (ls : LL) (st : List Value) (h : Hp) (v : Option Value) (h1 : Hp), xRun cf scr B n is ls st h = some (v, h1) → le3 h h1
  | 0, _, _, _, _, _, _, hr => by simp [xRun] at hr
  | n + 1, [], _, _, _, _, _, hr => by simp [xRun] at hr
  | n + 1, x :: is, ls, st, h, v, h1, hr => by
    have hm := xStep_mono (scr := scr) (B := B) (x := x) (is := is) (ls := ls) (st := st) (h := h) hcf
    rw [xRun] at hr
    cases hs : xStep cf scr B x is ls st h with
    | none => rw [hs] at hr; cases hr
    | some q =>
      rw [hs] at hr hm
      cases q with
      | inl q => exact hm.tr (xRun_mono hcf n _ _ _ _ _ _ hr)
      | inr q =>
        cases hr
        exact hm
theorem pClause_mono {cf : Nat → List Value → Hp → Option XR} (hcf : cfMono cf) {a b : Nat} {vs : List Value} {h h1 : Hp} {v : Option Value} (hr : pClause cf a b vs h = some (v, h1)) : le3 h h1 := by
  unfold pClause at hr
  split at hr
  · split at hr
    · split at hr
      · split at hr
        · split at hr
          · rename_i hc
            have m1 := hcf _ _ _ _ _ hc
            split at hr
            · cases hr
              exact m1.tr ⟨Nat.le_add_right _ _, Nat.le_add_right _ _, Nat.le_refl _⟩
            · split at hr
              · split at hr
                · rename_i hc2
                  have m2 := hcf _ _ _ _ _ hc2
                  split at hr
                  · cases hr
                    exact m1.tr m2
                  · cases hr
                · cases hr
              · cases hr
          · cases hr
        · cases hr
      · cases hr
    · cases hr
  · cases hr
theorem pAmong_same {vs : List Value} {h h1 : Hp} {v : Option Value} (hr : pAmong vs h = some (v, h1)) : h1 = h := by
  unfold pAmong at hr
  split at hr
  · split at hr
    · cases hr; rfl
    · split at hr
      · cases hr; rfl
      · cases hr
  · cases hr
theorem pMath_same {k : Nat} {vs : List Value} {h h1 : Hp} {v : Option Value} (hr : pMath k vs h = some (v, h1)) : h1 = h := by
  unfold pMath at hr
  split at hr
  · split at hr
    · cases hr; rfl
    · split at hr
      · cases hr; rfl
      · cases hr
  · split at hr
    · cases hr; rfl
    · cases hr
  · cases hr
theorem xCall_mono (N : Nat) : ∀ d, cfMono (xCall N d)
  | 0 => fun k vs h v h1 hr => by simp [xCall] at hr
  | d + 1 => fun k vs h v h1 hr => by
    have ih := xCall_mono N d
    rw [xCall] at hr
    split at hr
    · rw [pMath_same hr]; exact le3.rf h
    · split at hr
      · rw [pAmong_same hr]; exact le3.rf h
      · split at hr
        · exact pClause_mono ih hr
        · split at hr
          · cases hr
          · exact xRun_mono ih _ _ _ _ _ _ _ hr
