/-! help: the amendments that the class leaves out. -/
section
variable {n : Nat} {cl wt ys : Nat → Nat}
theorem hold_alt {cA cB : Nat → Nat} {x : Nat} (hx : x < 40) (h : ∀ i, cA i = cB i ∨ (cA i = x ∧ cB i = 0)) : ∀ r l, holdN cA n ys r l = holdN cB n ys r l ∨ (holdN cA n ys r l = x ∧ holdN cB n ys r l = 0)
  | 0, _ => Or.inl rfl
  | r + 1, l => by
    rw [holdN, holdN]
    rcases h l with e | ⟨e1, e2⟩
    · rw [e]
      by_cases q1 : cB l < 40
      · rw [if_pos q1, if_pos q1]; exact Or.inl rfl
      · rw [if_neg q1, if_neg q1]
        by_cases q2 : cB l = 60
        · rw [if_pos q2, if_pos q2]; exact Or.inl rfl
        · rw [if_neg q2, if_neg q2]
          by_cases q3 : cB l < 50
          · rw [if_pos q3, if_pos q3]; exact Or.inl rfl
          · rw [if_neg q3, if_neg q3]
            by_cases q4 : cB l - 50 < n
            · rw [if_pos q4, if_pos q4]; exact hold_alt hx h r _
            · rw [if_neg q4, if_neg q4]; exact Or.inl rfl
    · rw [e1, e2, if_pos hx, if_pos (by decide)]
      exact Or.inr ⟨rfl, rfl⟩
theorem cnt_mono {r r' : Nat → Int32} {c : Int32} : ∀ n, (∀ l, l < n → r l = c → r' l = c) → cnt r 0 c n ≤ cnt r' 0 c n
  | 0, _ => Nat.le_refl _
  | n + 1, h => by
    have ih := cnt_mono (r := r) (r' := r') (c := c) n (fun l hl => h l (by omega))
    have h2 := h n (by omega)
    rw [cnt, cnt, Nat.zero_add]
    by_cases q : r n = c
    · rw [if_pos q, if_pos (h2 q)]; omega
    · rw [if_neg q]; omega
theorem amd_alt {c x : Nat} {φ : Nat → Nat} : ∀ i, (va_up cl c x) (6 * i + φ i) = (va_up cl c 0) (6 * i + φ i) ∨ ((va_up cl c x) (6 * i + φ i) = x ∧ (va_up cl c 0) (6 * i + φ i) = 0) := by
  intro i
  rw [vu_at, vu_at]
  by_cases q : 6 * i + φ i = c
  · rw [if_pos q, if_pos q]; exact Or.inr ⟨rfl, rfl⟩
  · rw [if_neg q, if_neg q]; exact Or.inl rfl
theorem amd_aim {c x : Nat} (hx : x < 40) : aiF (va_up cl c x) n = aiF (va_up cl c 0) n := by
  funext l f
  simp only [aiF, vu_at]
  by_cases q : 6 * l + f = c
  · rw [if_pos q, if_pos q, aimN, aimN, if_neg (by omega), if_neg (by omega)]
  · rw [if_neg q, if_neg q]
theorem lw_n {c d : Nat} (hd : d < 6) {φ : Nat → Nat} : lwB (hdF (va_up cl c (20 + d)) n ys φ) 0 n d = true → lwB (hdF (va_up cl c 0) n ys φ) 0 n d = true := by
  intro h
  have alt := hold_alt (n := n) (ys := ys) (cA := fun i => (va_up cl c (20 + d)) (6 * i + φ i)) (cB := fun i => (va_up cl c 0) (6 * i + φ i)) (show 20 + d < 40 by omega) (amd_alt (x := 20 + d))
  have m1 : cnt (hdF (va_up cl c 0) n ys φ) 0 (nI (20 + d)) n ≤ cnt (hdF (va_up cl c (20 + d)) n ys φ) 0 (nI (20 + d)) n := cnt_mono n (fun l hl h => by
    rcases alt 6 l with e | ⟨e1, e2⟩
    · rw [hdF, e]; exact h
    · rw [hdF, e1])
  have m2 : cnt (hdF (va_up cl c (20 + d)) n ys φ) 0 (nI (10 + d)) n = cnt (hdF (va_up cl c 0) n ys φ) 0 (nI (10 + d)) n := cnt_iff n (fun l hl => by
    rcases alt 6 l with e | ⟨e1, e2⟩
    · rw [hdF, hdF, e]
    · rw [hdF, hdF, e1, e2]
      exact nI_iff (by omega) (by omega) (by omega) (by omega) (by omega))
  have h := of_decide_eq_true h
  refine decide_eq_true ?_
  omega
theorem lw_o {c d : Nat} (hd : d < 6) {φ : Nat → Nat} : lwB (hdF (va_up cl c (30 + d)) n ys φ) 0 n d = lwB (hdF (va_up cl c 0) n ys φ) 0 n d := by
  have alt := hold_alt (n := n) (ys := ys) (cA := fun i => (va_up cl c (30 + d)) (6 * i + φ i)) (cB := fun i => (va_up cl c 0) (6 * i + φ i)) (show 30 + d < 40 by omega) (amd_alt (x := 30 + d))
  have m : ∀ x, 10 ≤ x → x < 30 → cnt (hdF (va_up cl c (30 + d)) n ys φ) 0 (nI x) n = cnt (hdF (va_up cl c 0) n ys φ) 0 (nI x) n := fun x h1 h2 => cnt_iff n (fun l hl => by
    rcases alt 6 l with e | ⟨e1, e2⟩
    · rw [hdF, hdF, e]
    · rw [hdF, hdF, e1, e2]
      exact nI_iff (by omega) (by omega) (by omega) (by omega) (by omega))
  unfold lwB
  rw [m (20 + d) (by omega) (by omega), m (10 + d) (by omega) (by omega)]
theorem b01_le {a b : Bool} (h : a = true → b = true) : b01 a ≤ b01 b := by
  cases a <;> cases b <;> simp [b01] at *
/-- with one amendment -/
def FA1 (n : Nat) (cl wt ys : Nat → Nat) (d c x : Nat) : Nat := TL n (va_up cl c x) wt ys 0 d 0 0
theorem FA_n {c d : Nat} (hd : d < 6) : FA1 n cl wt ys d c (20 + d) ≤ FA1 n cl wt ys d c 0 := by
  unfold FA1 TL
  rw [amd_aim (show 20 + d < 40 by omega)]
  refine al_le (fun ψ => dfs_le (fun φ g => ?_) 3 _ ψ) _ _
  have : soB (va_up cl c (20 + d)) n ys 0 d 0 0 φ g = lwB (hdF (va_up cl c (20 + d)) n ys φ) 0 n d := rfl
  have e2 : soB (va_up cl c 0) n ys 0 d 0 0 φ g = lwB (hdF (va_up cl c 0) n ys φ) 0 n d := rfl
  rw [this, e2]
  exact b01_le (lw_n hd)
theorem FA_o {c d : Nat} (hd : d < 6) : FA1 n cl wt ys d c (30 + d) = FA1 n cl wt ys d c 0 := by
  unfold FA1 TL
  rw [amd_aim (show 30 + d < 40 by omega)]
  congr 2
  funext φ g
  have : soB (va_up cl c (30 + d)) n ys 0 d 0 0 φ g = lwB (hdF (va_up cl c (30 + d)) n ys φ) 0 n d := rfl
  have e2 : soB (va_up cl c 0) n ys 0 d 0 0 φ g = lwB (hdF (va_up cl c 0) n ys φ) 0 n d := rfl
  rw [this, e2, lw_o hd]
/-- better than what stands -/
def btr (m : Option (Nat × Nat)) (code v : Nat) : Option (Nat × Nat) := match m with
  | none => some (code, v)
  | some q => if q.2 < v then some (code, v) else some q
def cod (c x : Nat) : Nat := 1000 * (c / 6) + 100 * (c % 6) + x
/-- the model's way over the four clauses; the class's over two -/
def hlp (n : Nat) (cl wt ys : Nat → Nat) (d : Nat) : Nat → Option (Nat × Nat)
  | 0 => none
  | c + 1 => btr (btr (hlp n cl wt ys d c) (cod c 0) (FA1 n cl wt ys d c 0)) (cod c (10 + d)) (FA1 n cl wt ys d c (10 + d))
theorem btr_no {m : Option (Nat × Nat)} {a b v w : Nat} (h : w ≤ v) : btr (btr m a v) b w = btr m a v := by
  unfold btr
  cases m with
  | none => dsimp only; rw [if_neg (by omega)]
  | some q =>
    dsimp only
    by_cases z : q.2 < v
    · rw [if_pos z]; dsimp only; rw [if_neg (by omega)]
    · rw [if_neg z]; dsimp only; rw [if_neg (by omega)]
theorem btr_ge {m : Option (Nat × Nat)} {a v : Nat} : ∃ q, btr m a v = some q ∧ v ≤ q.2 := by
  unfold btr
  cases m with
  | none => exact ⟨_, rfl, Nat.le_refl _⟩
  | some q =>
    dsimp only
    by_cases z : q.2 < v
    · rw [if_pos z]; exact ⟨_, rfl, Nat.le_refl _⟩
    · rw [if_neg z]; exact ⟨_, rfl, by omega⟩
theorem btr_no2 {m : Option (Nat × Nat)} {a b c v w u : Nat} (h : u ≤ v) : btr (btr (btr m a v) b w) c u = btr (btr m a v) b w := by
  obtain ⟨q, h1, h2⟩ := btr_ge (m := m) (a := a) (v := v)
  rw [h1]
  unfold btr
  dsimp only
  by_cases z : q.2 < w
  · rw [if_pos z]; dsimp only; rw [if_neg (by omega)]
  · rw [if_neg z]; dsimp only; rw [if_neg (by omega)]
theorem hlp_4 {d c : Nat} (hd : d < 6) : btr (btr (hlp n cl wt ys d (c + 1)) (cod c (20 + d)) (FA1 n cl wt ys d c (20 + d))) (cod c (30 + d)) (FA1 n cl wt ys d c (30 + d)) = hlp n cl wt ys d (c + 1) := by
  rw [hlp, btr_no2 (FA_n hd), btr_no2 (Nat.le_of_eq (FA_o hd))]
end
