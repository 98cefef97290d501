/-! Faces taken together by signs: what the class's kinds come to. -/
theorem if_cgr {p q : Prop} [Decidable p] [Decidable q] {α : Type} {a b : α} (h : p ↔ q) : (if p then a else b) = (if q then a else b) := by
  by_cases hp : p
  · rw [if_pos hp, if_pos (h.mp hp)]
  · rw [if_neg hp, if_neg (fun z => hp (h.mpr z))]
/-- the first of n kinds with sign x, or n -/
def fdK (sg : Nat → Int32) (x : Int32) (n : Nat) : Nat → Nat
  | 0 => n
  | r + 1 => if sg (n - (r + 1)) = x then n - (r + 1) else fdK sg x n r
theorem fdK_or {sg : Nat → Int32} {x : Int32} {n : Nat} : ∀ r, r ≤ n → (fdK sg x n r < n ∧ sg (fdK sg x n r) = x) ∨ (fdK sg x n r = n ∧ ∀ k, n - r ≤ k → k < n → sg k ≠ x) := by
  intro r
  induction r with
  | zero => exact fun _ => Or.inr ⟨rfl, fun k h1 h2 => by omega⟩
  | succ r ih =>
    intro hr
    rw [fdK]
    split
    · rename_i h
      exact Or.inl ⟨by omega, h⟩
    · rename_i h
      rcases ih (by omega) with q | ⟨q1, q2⟩
      · exact Or.inl q
      · refine Or.inr ⟨q1, fun k h1 h2 => ?_⟩
        by_cases e : k = n - (r + 1)
        · rw [e]; exact h
        · exact q2 k (by omega) h2
/-- c cells (six a law) are sorted: wt weights, X signs, to kinds; ct kinds a law, sg signs, sh weights of a kind -/
def KP (c : Nat) (wt : Nat → Nat) (X : Nat → Int32) (to ct : Nat → Nat) (sg : Nat → Nat → Int32) (sh : Nat → Nat → Nat) : Prop :=
  (∀ l, l < 5 → ct l ≤ 6 ∧ ct l ≤ c - 6 * l) ∧
  (∀ l, l < 5 → ∀ f, f < 6 → 6 * l + f < c → wt (6 * l + f) ≠ 0 → to (6 * l + f) < ct l ∧ sg l (to (6 * l + f)) = X (6 * l + f)) ∧
  (∀ l, l < 5 → ∀ k, k < ct l → sh l k = sm 6 (fun f => if 6 * l + f < c ∧ to (6 * l + f) = k then wt (6 * l + f) else 0)) ∧
  (∀ l, l < 5 → ∀ k k', k < ct l → k' < ct l → sg l k = sg l k' → k = k') ∧
  ∃ fs : Nat → Nat → Nat, ∀ l, l < 5 → ∀ k, k < ct l → fs l k < 6 ∧ 6 * l + fs l k < c ∧ wt (6 * l + fs l k) ≠ 0 ∧ to (6 * l + fs l k) = k ∧ ∀ k', k' < k → fs l k' < fs l k
theorem KP_0 (wt : Nat → Nat) (X : Nat → Int32) (to : Nat → Nat) (sg : Nat → Nat → Int32) (sh : Nat → Nat → Nat) : KP 0 wt X to (fun _ => 0) sg sh :=
  ⟨fun _ _ => ⟨Nat.zero_le _, Nat.zero_le _⟩, fun _ _ _ _ h => absurd h (Nat.not_lt_zero _), fun _ _ _ h => absurd h (Nat.not_lt_zero _), fun _ _ _ _ h => absurd h (Nat.not_lt_zero _), fun _ _ => 0, fun _ _ _ h => absurd h (Nat.not_lt_zero _)⟩
theorem KP_z {c : Nat} {wt : Nat → Nat} {X : Nat → Int32} {to ct : Nat → Nat} {sg : Nat → Nat → Int32} {sh : Nat → Nat → Nat} (kp : KP c wt X to ct sg sh) (h0 : wt c = 0) : KP (c + 1) wt X to ct sg sh := by
  obtain ⟨a1, a2, a3, a4, fs, a5⟩ := kp
  refine ⟨fun l hl => ⟨(a1 l hl).1, by have := (a1 l hl).2; omega⟩, fun l hl f hf hc hw => ?_, fun l hl k hk => ?_, a4, fs, fun l hl k hk => ?_⟩
  · by_cases e : 6 * l + f = c
    · rw [e] at hw; exact absurd h0 hw
    · exact a2 l hl f hf (by omega) hw
  · rw [a3 l hl k hk]
    refine sm_congr (fun f hf => ?_)
    by_cases e : 6 * l + f = c
    · rw [e, h0]; simp
    · exact if_cgr ⟨fun q => ⟨by omega, q.2⟩, fun q => ⟨by omega, q.2⟩⟩
  · obtain ⟨b1, b2, b3, b4, b5⟩ := a5 l hl k hk
    exact ⟨b1, by omega, b3, b4, b5⟩
theorem KP_s {l0 f0 : Nat} {wt : Nat → Nat} {X : Nat → Int32} {to ct : Nat → Nat} {sg : Nat → Nat → Int32} {sh : Nat → Nat → Nat} (hl0 : l0 < 5) (hf0 : f0 < 6) (kp : KP (6 * l0 + f0) wt X to ct sg sh) (h0 : wt (6 * l0 + f0) ≠ 0) : KP (6 * l0 + f0 + 1) wt X (va_up to (6 * l0 + f0) (fdK (sg l0) (X (6 * l0 + f0)) (ct l0) (ct l0))) (if fdK (sg l0) (X (6 * l0 + f0)) (ct l0) (ct l0) < ct l0 then ct else va_up ct l0 (ct l0 + 1)) (up2 sg l0 (fdK (sg l0) (X (6 * l0 + f0)) (ct l0) (ct l0)) (X (6 * l0 + f0))) (up2 sh l0 (fdK (sg l0) (X (6 * l0 + f0)) (ct l0) (ct l0)) ((if fdK (sg l0) (X (6 * l0 + f0)) (ct l0) (ct l0) < ct l0 then sh l0 (fdK (sg l0) (X (6 * l0 + f0)) (ct l0) (ct l0)) else 0) + wt (6 * l0 + f0))) := by
  obtain ⟨a1, a2, a3, a4, fs, a5⟩ := kp
  have hor := fdK_or (sg := sg l0) (x := X (6 * l0 + f0)) (n := ct l0) (ct l0) (Nat.le_refl _)
  obtain ⟨k0, hk0⟩ : ∃ k, k = fdK (sg l0) (X (6 * l0 + f0)) (ct l0) (ct l0) := ⟨_, rfl⟩
  rw [← hk0] at hor ⊢
  have hk6 : k0 < 6 := by
    have := a1 l0 hl0
    omega
  have c1 := a1 l0 hl0
  -- the new count of kinds
  obtain ⟨ct', hct⟩ : ∃ ct', ct' = (if k0 < ct l0 then ct else va_up ct l0 (ct l0 + 1)) := ⟨_, rfl⟩
  rw [← hct]
  have ct1 : ∀ l, l ≠ l0 → ct' l = ct l := by
    intro l hl
    rw [hct]
    split
    · rfl
    · rw [vu_at, if_neg hl]
  have ct2 : (k0 < ct l0 ∧ ct' l0 = ct l0) ∨ (k0 = ct l0 ∧ ct' l0 = ct l0 + 1) := by
    rw [hct]
    by_cases q : k0 < ct l0
    · exact Or.inl ⟨q, by rw [if_pos q]⟩
    · refine Or.inr ⟨by omega, ?_⟩
      rw [if_neg q, vu_at, if_pos rfl]
  have sgk : ∀ k, k < ct l0 → up2 sg l0 k0 (X (6 * l0 + f0)) l0 k = sg l0 k := by
    intro k hk
    rw [up2_at]
    split
    · rename_i q
      rcases hor with ⟨_, r2⟩ | ⟨r1, _⟩
      · rw [q.2, r2]
      · omega
    · rfl
  have sg0 : up2 sg l0 k0 (X (6 * l0 + f0)) l0 k0 = X (6 * l0 + f0) := by rw [up2_at, if_pos ⟨rfl, rfl⟩]
  have sgo : ∀ l k, l ≠ l0 → up2 sg l0 k0 (X (6 * l0 + f0)) l k = sg l k := fun l k h => by rw [up2_at, if_neg (fun q => h q.1)]
  have to0 : va_up to (6 * l0 + f0) k0 (6 * l0 + f0) = k0 := by rw [vu_at, if_pos rfl]
  have tou : ∀ l f, f < 6 → 6 * l + f < 6 * l0 + f0 → va_up to (6 * l0 + f0) k0 (6 * l + f) = to (6 * l + f) := fun l f hf h => by rw [vu_at, if_neg (by omega)]
  have k0c : k0 < ct' l0 := by omega
  have cl0 : ct l0 ≤ ct' l0 := by omega
  refine ⟨fun l hl => ?_, fun l hl f hf hc hw => ?_, fun l hl k hk => ?_, fun l hl k k' hk hk' he => ?_, up2 fs l0 k0 (if k0 < ct l0 then fs l0 k0 else f0), fun l hl k hk => ?_⟩
  · by_cases e : l = l0
    · subst e; omega
    · rw [ct1 l e]
      have := a1 l hl
      omega
  · by_cases e : 6 * l + f = 6 * l0 + f0
    · have e1 : l = l0 := by omega
      subst e1
      rw [e, to0]
      exact ⟨k0c, sg0⟩
    · rw [tou l f hf (by omega)]
      obtain ⟨b1, b2⟩ := a2 l hl f hf (by omega) hw
      by_cases e1 : l = l0
      · subst e1
        exact ⟨by omega, by rw [sgk _ b1]; exact b2⟩
      · rw [ct1 l e1, sgo l _ e1]
        exact ⟨b1, b2⟩
  · by_cases e1 : l = l0
    · subst e1
      have e2 : sm 6 (fun f => if 6 * l + f < 6 * l + f0 + 1 ∧ va_up to (6 * l + f0) k0 (6 * l + f) = k then wt (6 * l + f) else 0) = sm 6 (fun f => if 6 * l + f < 6 * l + f0 ∧ to (6 * l + f) = k then wt (6 * l + f) else 0) + sm 6 (fun f => if f = f0 ∧ k0 = k then wt (6 * l + f0) else 0) := by
        rw [← sm_add]
        refine sm_congr (fun f hf => ?_)
        by_cases e : f = f0
        · subst e
          rw [to0]
          have h1 : ¬ (6 * l + f < 6 * l + f) := by omega
          have h2 : 6 * l + f < 6 * l + f + 1 := by omega
          simp [h1, h2]
        · have hv : va_up to (6 * l + f0) k0 (6 * l + f) = to (6 * l + f) := by rw [vu_at, if_neg (by omega)]
          rw [hv, if_neg (show ¬ (f = f0 ∧ k0 = k) from fun q => e q.1), Nat.add_zero]
          exact if_cgr ⟨fun q => ⟨by omega, q.2⟩, fun q => ⟨by omega, q.2⟩⟩
      have e3 : sm 6 (fun f => if f = f0 ∧ k0 = k then wt (6 * l + f0) else 0) = if k0 = k then wt (6 * l + f0) else 0 := by
        rw [sm_one (k := f0) hf0 (fun i hi hne => by rw [if_neg (fun q => hne q.1)])]
        exact if_cgr ⟨fun q => q.2, fun q => ⟨rfl, q⟩⟩
      rw [e2, e3]
      by_cases q : k = k0
      · subst q
        rw [up2_at, if_pos ⟨rfl, rfl⟩, if_pos rfl]
        congr 1
        split
        · rename_i r
          exact a3 l hl k r
        · rename_i r
          symm
          refine sm_z (fun f hf => ?_)
          by_cases z : 6 * l + f < 6 * l + f0 ∧ to (6 * l + f) = k
          · rw [if_pos z]
            by_cases hw : wt (6 * l + f) = 0
            · exact hw
            · have := (a2 l hl f hf z.1 hw).1
              omega
          · rw [if_neg z]
      · rw [up2_at, if_neg (fun z => q z.2), if_neg (fun z => q z.symm), Nat.add_zero]
        exact a3 l hl k (by omega)
    · rw [up2_at, if_neg (fun z => e1 z.1), a3 l hl k (by rw [ct1 l e1] at hk; exact hk)]
      refine sm_congr (fun f hf => ?_)
      have hv : va_up to (6 * l0 + f0) k0 (6 * l + f) = to (6 * l + f) := by rw [vu_at, if_neg (by omega)]
      rw [hv]
      exact if_cgr ⟨fun q => ⟨by omega, q.2⟩, fun q => ⟨by omega, q.2⟩⟩
  · by_cases e1 : l = l0
    · subst e1
      have hnew : ∀ j, j < ct l → k0 = ct l → sg l j ≠ X (6 * l + f0) := by
        intro j hj hq
        rcases hor with ⟨r1, _⟩ | ⟨_, r2⟩
        · omega
        · exact r2 j (by omega) hj
      by_cases q1 : k < ct l
      · by_cases q2 : k' < ct l
        · rw [sgk k q1, sgk k' q2] at he
          exact a4 l hl k k' q1 q2 he
        · have q3 : k' = k0 := by omega
          rw [sgk k q1, q3, sg0] at he
          exact absurd he (hnew k q1 (by omega))
      · have q3 : k = k0 := by omega
        by_cases q2 : k' < ct l
        · rw [sgk k' q2, q3, sg0] at he
          exact absurd he.symm (hnew k' q2 (by omega))
        · omega
    · rw [sgo l k e1, sgo l k' e1] at he
      rw [ct1 l e1] at hk hk'
      exact a4 l hl k k' hk hk' he
  · by_cases e1 : l = l0
    · subst e1
      by_cases q : k < ct l
      · obtain ⟨b1, b2, b3, b4, b5⟩ := a5 l hl k q
        have hfs : ∀ k', k' < ct l → up2 fs l k0 (if k0 < ct l then fs l k0 else f0) l k' = fs l k' := by
          intro k' hk'
          rw [up2_at]
          split
          · rename_i z
            rw [if_pos (by omega), z.2]
          · rfl
        rw [hfs k q, tou l _ b1 b2]
        exact ⟨b1, by omega, b3, b4, fun k' hk' => by rw [hfs k' (by omega)]; exact b5 k' hk'⟩
      · have q3 : k = k0 := by omega
        have q4 : ¬ k0 < ct l := by omega
        subst q3
        rw [up2_at, if_pos ⟨rfl, rfl⟩, if_neg q4, to0]
        refine ⟨hf0, by omega, h0, rfl, fun k' hk' => ?_⟩
        rw [up2_at, if_neg (by omega)]
        have := (a5 l hl k' (by omega)).2.1
        omega
    · rw [ct1 l e1] at hk
      obtain ⟨b1, b2, b3, b4, b5⟩ := a5 l hl k hk
      have hfs : ∀ k', up2 fs l0 k0 (if k0 < ct l0 then fs l0 k0 else f0) l k' = fs l k' := fun k' => by rw [up2_at, if_neg (fun z => e1 z.1)]
      rw [hfs k, vu_at, if_neg (by omega)]
      exact ⟨b1, by omega, b3, b4, fun k' hk' => by rw [hfs k']; exact b5 k' hk'⟩
