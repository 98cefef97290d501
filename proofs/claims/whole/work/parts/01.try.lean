theorem zz_try (a b : Nat) (h : a < b) : a ≠ b := by omega
theorem zz_bad (w : Cond) (h : goodWord w = true) : w = w ∧ False := by
  refine ⟨rfl, ?_⟩
  omega
