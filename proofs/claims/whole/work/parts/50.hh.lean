/-! What holds: the class's way and the model's. -/
/-- the way of copies ends within r steps -/
def tmB (nx : Nat → Option Nat) : Nat → Nat → Bool
  | 0, _ => false
  | r + 1, l => match nx l with
    | none => true
    | some m => tmB nx r m
theorem tmB_mono {nx : Nat → Option Nat} : ∀ r l, tmB nx r l = true → tmB nx (r + 1) l = true
  | 0, _, h => by cases h
  | r + 1, l, h => by
    rw [tmB] at h ⊢
    cases hx : nx l with
    | none => rfl
    | some m =>
      rw [hx] at h
      exact tmB_mono r m h
section
variable {nx : Nat → Option Nat} {n : Nat}
theorem tmB_st (hn : ∀ l m, l < n → nx l = some m → m < n) {r : Nat} (h : ∀ l, l < n → tmB nx (r + 1) l = tmB nx r l) : ∀ k l, l < n → tmB nx (r + k) l = tmB nx r l := by
  have h2 : ∀ k l, l < n → tmB nx (r + k + 1) l = tmB nx (r + k) l := by
    intro k
    induction k with
    | zero => exact h
    | succ k ih =>
      intro l hl
      rw [show r + (k + 1) + 1 = (r + k + 1) + 1 from by omega, show r + (k + 1) = (r + k) + 1 from by omega, tmB, tmB]
      cases hx : nx l with
      | none => rfl
      | some m => exact ih m (hn l m hl hx)
  intro k
  induction k with
  | zero => exact fun _ _ => rfl
  | succ k ih =>
    intro l hl
    rw [show r + (k + 1) = r + k + 1 from by omega, h2 k l hl, ih l hl]
theorem sm_ones : ∀ n, sm n (fun _ => 1) = n
  | 0 => rfl
  | n + 1 => by rw [sm, sm_ones n]
theorem sm_le_eq {f g : Nat → Nat} : ∀ n, (∀ i, i < n → f i ≤ g i) → sm n f ≤ sm n g ∧ (sm n f = sm n g → ∀ i, i < n → f i = g i)
  | 0, _ => ⟨Nat.le_refl _, fun _ i hi => absurd hi (Nat.not_lt_zero _)⟩
  | n + 1, h => by
    obtain ⟨a, b⟩ := sm_le_eq n (fun i hi => h i (by omega))
    have c := h n (by omega)
    rw [sm, sm]
    refine ⟨by omega, fun e i hi => ?_⟩
    by_cases q : i = n
    · rw [q]; omega
    · exact b (by omega) i (by omega)
theorem tmB_all (hn : ∀ l m, l < n → nx l = some m → m < n) : ∀ k l, l < n → tmB nx (n + k) l = tmB nx n l := by
  have key : ∀ r, (∃ q, q ≤ r ∧ ∀ l, l < n → tmB nx (q + 1) l = tmB nx q l) ∨ r + 1 ≤ sm n (fun l => b01 (tmB nx (r + 1) l)) := by
    have step : ∀ r, (∀ l, l < n → tmB nx (r + 1) l = tmB nx r l) ∨ sm n (fun l => b01 (tmB nx r l)) < sm n (fun l => b01 (tmB nx (r + 1) l)) := by
      intro r
      have hle : ∀ i, i < n → b01 (tmB nx r i) ≤ b01 (tmB nx (r + 1) i) := by
        intro i hi
        cases hb : tmB nx r i
        · exact Nat.zero_le _
        · rw [tmB_mono r i hb]
          exact Nat.le_refl _
      obtain ⟨a, b⟩ := sm_le_eq n hle
      by_cases e : sm n (fun l => b01 (tmB nx r l)) = sm n (fun l => b01 (tmB nx (r + 1) l))
      · left
        intro l hl
        have := b e l hl
        revert this
        cases tmB nx r l <;> cases tmB nx (r + 1) l <;> decide
      · right; omega
    intro r
    induction r with
    | zero =>
      rcases step 0 with q | q
      · exact Or.inl ⟨0, Nat.le_refl _, q⟩
      · right; omega
    | succ r ih =>
      rcases ih with ⟨q, q1, q2⟩ | q
      · exact Or.inl ⟨q, by omega, q2⟩
      · rcases step (r + 1) with z | z
        · exact Or.inl ⟨r + 1, Nat.le_refl _, z⟩
        · right; omega
  have bound : ∀ r, sm n (fun l => b01 (tmB nx r l)) ≤ n := by
    intro r
    have := (sm_le_eq (f := fun l => b01 (tmB nx r l)) (g := fun _ => 1) n (fun i _ => by cases tmB nx r i <;> decide)).1
    rw [sm_ones] at this
    exact this
  intro k l hl
  rcases key n with ⟨q, q1, q2⟩ | q
  · have a1 := tmB_st hn q2 (n - q + k) l hl
    have a2 := tmB_st hn q2 (n - q) l hl
    rw [show q + (n - q + k) = n + k from by omega] at a1
    rw [show q + (n - q) = n from by omega] at a2
    rw [a1, a2]
  · have := bound (n + 1)
    omega
end
def nxH (sh : Nat → Nat) (l : Nat) : Option Nat := if sh l < 50 then none else some (sh l - 50)
theorem held_t {sh : Nat → Nat} : ∀ r l, tmB (nxH sh) r l = true → ∀ k, heldN sh (r + k) l = heldN sh r l
  | 0, _, h, _ => by cases h
  | r + 1, l, h, k => by
    rw [tmB, nxH] at h
    rw [show r + 1 + k = (r + k) + 1 from by omega, heldN, heldN]
    by_cases q : sh l < 50
    · rw [if_pos q, if_pos q]
    · rw [if_neg q] at h ⊢
      rw [if_neg q]
      exact held_t r _ h k
theorem held_f {sh : Nat → Nat} : ∀ r l, tmB (nxH sh) r l = false → heldN sh r l = 0
  | 0, _, _ => by rw [heldN]
  | r + 1, l, h => by
    rw [tmB, nxH] at h
    rw [heldN]
    by_cases q : sh l < 50
    · rw [if_pos q] at h; cases h
    · rw [if_neg q] at h
      rw [if_neg q]
      exact held_f r _ h
/-- more steps than laws and one show nothing more -/
theorem held_fuel {sh : Nat → Nat} {n : Nat} (hs : ∀ l, l < n → sh l < 50 + n) (k : Nat) {l : Nat} (hl : l < n) : heldN sh (n + 1 + k) l = heldN sh (n + 1) l := by
  have hn : ∀ l m, l < n → nxH sh l = some m → m < n := by
    intro l m hl h
    unfold nxH at h
    split at h
    · cases h
    · cases h
      have := hs l hl
      omega
  have h1 := tmB_all hn 1 l hl
  have h2 := tmB_all hn (1 + k) l hl
  cases hb : tmB (nxH sh) (n + 1) l
  · rw [held_f _ _ hb, held_f]
    rw [show n + 1 + k = n + (1 + k) from by omega, h2, ← h1]
    exact hb
  · exact held_t _ _ hb k
theorem held_hold {c ys : Nat → Nat} {n : Nat} (hc : ∀ l, l < n → c l ≤ 60) (hy : ∀ l, l < n → ys l < 40) : ∀ r l, l < n → heldN (fun l => setN (c l) n (ys l)) r l = holdN c n ys r l
  | 0, _, _ => rfl
  | r + 1, l, hl => by
    have h1 := hc l hl
    have h2 := hy l hl
    rw [heldN, holdN]
    by_cases q1 : c l < 40
    · have e : setN (c l) n (ys l) = c l := by rw [setN, if_neg (show ¬ c l = 60 by omega), if_neg (show ¬ 50 ≤ c l by omega), if_neg (show ¬ 40 ≤ c l by omega)]
      simp only [e]
      rw [if_pos (show c l < 50 by omega), if_pos q1, if_pos q1]
    · rw [if_neg q1]
      by_cases q2 : c l = 60
      · have e : setN (c l) n (ys l) = ys l := by rw [setN, if_pos q2]
        simp only [e]
        rw [if_pos q2, if_pos (by omega), if_pos h2]
      · rw [if_neg q2]
        by_cases q3 : c l < 50
        · rw [if_pos q3]
          by_cases q4 : c l - 40 < n
          · have e : setN (c l) n (ys l) = c l := by rw [setN, if_neg q2, if_neg (show ¬ 50 ≤ c l by omega), if_pos (show 40 ≤ c l by omega), if_pos q4]
            simp only [e]
            rw [if_pos q3, if_neg q1]
          · have e : setN (c l) n (ys l) = 0 := by rw [setN, if_neg q2, if_neg (show ¬ 50 ≤ c l by omega), if_pos (show 40 ≤ c l by omega), if_neg q4]
            simp only [e]
            rfl
        · rw [if_neg q3]
          by_cases q4 : c l - 50 < n
          · have e : setN (c l) n (ys l) = c l := by rw [setN, if_neg q2, if_pos (show 50 ≤ c l by omega), if_pos q4]
            simp only [e]
            rw [if_neg q3, if_pos q4]
            exact held_hold hc hy r _ q4
          · have e : setN (c l) n (ys l) = 0 := by rw [setN, if_neg q2, if_pos (show 50 ≤ c l by omega), if_neg q4]
            simp only [e]
            rw [if_neg q4]
            rfl
theorem setN_50 {c n y : Nat} (hc : c ≤ 60) (hy : y < 40) (hn : n ≤ 5) : setN c n y < 50 + n := by
  unfold setN
  repeat' split
  all_goals omega
/-- what holds, by settled clauses -/
theorem held_eq {c ys : Nat → Nat} {n l : Nat} (n5 : n ≤ 5) (hc : ∀ l, l < n → c l ≤ 60) (hy : ∀ l, l < n → ys l < 40) (hl : l < n) : heldN (fun l => setN (c l) n (ys l)) (n + 1) l = holdN c n ys 6 l := by
  rw [← held_hold hc hy 6 l hl]
  have := held_fuel (sh := fun l => setN (c l) n (ys l)) (n := n) (fun l hl => setN_50 (hc l hl) (hy l hl) n5) (5 - n) hl
  rw [show n + 1 + (5 - n) = 6 from by omega] at this
  exact this.symm
/-- with clauses taken together for a question -/
theorem held_mn {sh : Nat → Nat} {s o t : Nat} {n : Nat} (s6 : s ≠ 6) (fx : Nat → Nat) (hs : ∀ l, l < n → sh l < 50 + n) : ∀ r l, l < n → heldN (fun l => mnN s o t (sh l) (fx l)) r l = mnN s o t (heldN sh r l) 0
  | 0, _, _ => by
    rw [heldN, heldN]
    simp only [mnN, if_neg s6]
    rw [if_neg (by decide)]
    by_cases s4 : s = 4
    · rw [if_pos s4, if_neg (by decide)]
    · rw [if_neg s4]
      by_cases s5 : s = 5
      · rw [if_pos s5]
        by_cases t0 : 0 = t
        · rw [if_pos t0]; exact t0
        · rw [if_neg t0, if_neg (fun q => t0 q.symm)]
      · rw [if_neg s5, if_neg (by omega)]
  | r + 1, l, hl => by
    have h0 : mnN s o t 0 0 = 0 := by
      have := held_mn (sh := sh) (o := o) (t := t) s6 fx hs 0 l hl
      rw [heldN, heldN] at this
      exact this.symm
    have h40 : ∀ c f, 50 ≤ c → mnN s o t c f = c := fun c f hc => by rw [mnN, if_neg s6, if_pos (by omega), if_neg (by omega)]
    have h45 : ∀ c f, 40 ≤ c → c < 50 → 40 ≤ mnN s o t c f ∧ mnN s o t c f < 50 := fun c f hc hc2 => by
      rw [mnN, if_neg s6, if_pos hc]
      split <;> omega
    have hlt : ∀ c f, c < 40 → t < 40 ∨ s ≠ 5 → mnN s o t c f < 40 := by
      intro c f hc ht
      unfold mnN
      repeat' split
      all_goals omega
    have hf : ∀ c f f', mnN s o t c f = mnN s o t c f' := fun c f f' => by simp only [mnN, if_neg s6]
    rw [heldN, heldN]
    have h1 := hs l hl
    by_cases q1 : sh l < 40
    · rw [if_pos (show sh l < 50 by omega), if_pos q1]
      by_cases q9 : t < 40 ∨ s ≠ 5
      · have q2 := hlt (sh l) (fx l) q1 q9
        rw [if_pos (by omega), if_pos q2, hf]
      · have s5 : s = 5 := by omega
        have : mnN s o t (sh l) (fx l) = 0 := by
          simp only [mnN]
          rw [if_neg s6, if_neg (by omega), if_neg (by omega), if_pos s5, if_neg (by omega), if_neg (by omega)]
        rw [this, hf (sh l) 0 (fx l), this]
        rfl
    · by_cases q2 : sh l < 50
      · obtain ⟨z1, z2⟩ := h45 (sh l) (fx l) (by omega) q2
        rw [if_pos z2, if_neg (show ¬ mnN s o t (sh l) (fx l) < 40 by omega), if_pos q2, if_neg q1, h0]
      · rw [h40 _ _ (by omega), if_neg q2, if_neg q2]
        exact held_mn s6 fx hs r _ (by omega)
