/-! likeliest: pure. -/
/-- the first of the greatest, of 0 .. k -/
def mbst (W : Nat → Nat) : Nat → Nat
  | 0 => 0
  | k + 1 => if W (mbst W k) < W (k + 1) then k + 1 else mbst W k
theorem mbst_ok (W : Nat → Nat) : ∀ k, mbst W k ≤ k ∧ (∀ j, j ≤ k → W j ≤ W (mbst W k)) ∧ ∀ j, j < mbst W k → W j < W (mbst W k)
  | 0 => ⟨Nat.le_refl _, fun j hj => by rw [show j = 0 by omega]; exact Nat.le_refl _, fun j hj => absurd hj (Nat.not_lt_zero _)⟩
  | k + 1 => by
    obtain ⟨a, b, c⟩ := mbst_ok W k
    rw [mbst]
    by_cases q : W (mbst W k) < W (k + 1)
    · rw [if_pos q]
      refine ⟨Nat.le_refl _, fun j hj => ?_, fun j hj => ?_⟩
      · by_cases e : j = k + 1
        · rw [e]; exact Nat.le_refl _
        · have := b j (by omega); omega
      · have := b j (by omega); omega
    · rw [if_neg q]
      refine ⟨by omega, fun j hj => ?_, c⟩
      by_cases e : j = k + 1
      · rw [e]; omega
      · exact b j (by omega)
/-- b the greatest of the first N, i the first such -/
def PB (W : Nat → Nat) (N b i : Nat) : Prop := (∀ j, j < N → W j ≤ b) ∧ (b = 0 → i = 0) ∧ (0 < b → i < N ∧ W i = b ∧ ∀ j, j < i → W j < b)
theorem PB_0 (W : Nat → Nat) : PB W 0 0 0 := ⟨fun j hj => absurd hj (Nat.not_lt_zero _), fun _ => rfl, fun h => absurd h (Nat.lt_irrefl _)⟩
theorem PB_gap {W : Nat → Nat} {N M b i : Nat} (p : PB W N b i) (hNM : N ≤ M) (h : ∀ j, N ≤ j → j < M → W j = 0) : PB W M b i :=
  ⟨fun j hj => by
    by_cases q : j < N
    · exact p.1 j q
    · rw [h j (by omega) hj]; exact Nat.zero_le _, p.2.1, fun hb => by
    obtain ⟨a, c, d⟩ := p.2.2 hb
    exact ⟨by omega, c, d⟩⟩
theorem PB_end {W : Nat → Nat} {k b i : Nat} (p : PB W (k + 1) b i) : b = W (mbst W k) ∧ i = mbst W k := by
  obtain ⟨a1, a2, a3⟩ := mbst_ok W k
  have h1 := p.1 (mbst W k) (by omega)
  by_cases hb : b = 0
  · have hi := p.2.1 hb
    have h0 : W (mbst W k) = 0 := by omega
    refine ⟨by omega, ?_⟩
    rw [hi]
    by_cases z : mbst W k = 0
    · exact z.symm
    · have := a3 0 (by omega)
      omega
  · obtain ⟨c1, c2, c3⟩ := p.2.2 (by omega)
    have h2 := a2 i (by omega)
    have e : W (mbst W k) = b := by omega
    refine ⟨e.symm, ?_⟩
    rcases Nat.lt_trichotomy i (mbst W k) with q | q | q
    · have := a3 i q; omega
    · exact q
    · have := c3 _ q; omega
theorem PB_step {W : Nat → Nat} {N b i : Nat} (p : PB W N b i) : PB W (N + 1) (if b < W N then W N else b) (if b < W N then N else i) := by
  by_cases q : b < W N
  · rw [if_pos q, if_pos q]
    refine ⟨fun j hj => ?_, fun h => by omega, fun _ => ⟨by omega, rfl, fun j hj => ?_⟩⟩
    · by_cases e : j = N
      · rw [e]; exact Nat.le_refl _
      · have := p.1 j (by omega); omega
    · have := p.1 j hj; omega
  · rw [if_neg q, if_neg q]
    refine ⟨fun j hj => ?_, p.2.1, fun hb => ?_⟩
    · by_cases e : j = N
      · rw [e]; omega
      · exact p.1 j (by omega)
    · obtain ⟨c1, c2, c3⟩ := p.2.2 hb
      exact ⟨by omega, c2, c3⟩
/-- the class's note of faces: a the ways, x the faces -/
def lf6 (a x : (Nat → Nat) → Nat) (κ s : Nat → Nat) : Nat → Nat := fun c => if s 0 < a κ then (if c = 0 then a κ else if c = 1 then x κ else s c) else s c
theorem lf6_PB {W : Nat → Nat} {a x : (Nat → Nat) → Nat} {κ s : Nat → Nat} {N : Nat} (p : PB W N (s 0) (s 1)) (ha : a κ = W N) (hx : x κ = N) : PB W (N + 1) (lf6 a x κ s 0) (lf6 a x κ s 1) := by
  have := PB_step p
  rw [← ha] at this
  by_cases q : s 0 < a κ
  · have e0 : lf6 a x κ s 0 = a κ := by simp [lf6, q]
    have e1 : lf6 a x κ s 1 = x κ := by simp [lf6, q]
    rw [if_pos q, if_pos q] at this
    rw [e0, e1, hx]
    exact this
  · have e0 : lf6 a x κ s 0 = s 0 := by simp [lf6, q]
    have e1 : lf6 a x κ s 1 = s 1 := by simp [lf6, q]
    rw [if_neg q, if_neg q] at this
    rw [e0, e1]
    exact this
theorem foK_PB {W : Nat → Nat} {a x : (Nat → Nat) → Nat} {c2 : Nat → Nat} {fc : Nat → Nat → Nat} {n : Nat} (hfc : ∀ l, l < n → ∀ k, k < c2 l → fc l k < 6 ∧ ∀ k', k' < k → fc l k' < fc l k) (ha : ∀ κ, (∀ l, l < n → κ l < c2 l) → a κ = W (idF (fun l => fc l (κ l)) n)) (hx : ∀ κ, (∀ l, l < n → κ l < c2 l) → x κ = idF (fun l => fc l (κ l)) n) (hgap : ∀ (r l P y t : Nat), l + (r + 1) = n → y < 6 → (∀ k, k < c2 l → fc l k ≠ y) → (6 * P + y) * 6 ^ r ≤ t → t < (6 * P + y + 1) * 6 ^ r → W t = 0) : ∀ (r l : Nat), l + r = n → ∀ κ s, (∀ i, i < l → κ i < c2 i) → PB W (idF (fun l => fc l (κ l)) l * 6 ^ r) (s 0) (s 1) → PB W ((idF (fun l => fc l (κ l)) l + 1) * 6 ^ r) (foK c2 (lf6 a x) r l κ s 0) (foK c2 (lf6 a x) r l κ s 1) := by
  intro r
  induction r with
  | zero =>
    intro l hl κ s hκ p
    have hl : l = n := by omega
    subst hl
    rw [Nat.pow_zero, Nat.mul_one] at p ⊢
    rw [foK]
    exact lf6_PB p (ha κ hκ) (hx κ hκ)
  | succ r ih =>
    intro l hl κ s hκ p
    have ln : l < n := by omega
    obtain ⟨P, hP⟩ : ∃ P, P = idF (fun l => fc l (κ l)) l := ⟨_, rfl⟩
    rw [← hP] at p ⊢
    have e6 : ∀ z, (6 * z) * 6 ^ r = z * 6 ^ (r + 1) := fun z => by rw [Nat.pow_succ, Nat.mul_comm 6 z, Nat.mul_assoc, Nat.mul_comm 6]
    have gap : ∀ x y b i, x ≤ y → y ≤ 6 → (∀ z, x ≤ z → z < y → ∀ k, k < c2 l → fc l k ≠ z) → PB W ((6 * P + x) * 6 ^ r) b i → PB W ((6 * P + y) * 6 ^ r) b i := by
      intro x y b i hxy hy6 hz hp
      refine PB_gap hp (Nat.mul_le_mul_right _ (by omega)) (fun t h1 h2 => ?_)
      have hpos : 0 < 6 ^ r := Nat.pow_pos (by decide)
      have hd1 : 6 * P + x ≤ t / 6 ^ r := (Nat.le_div_iff_mul_le hpos).mpr h1
      have hd2 : t / 6 ^ r < 6 * P + y := (Nat.div_lt_iff_lt_mul hpos).mpr h2
      refine hgap r l P (t / 6 ^ r - 6 * P) t hl (by omega) (hz _ (by omega) (by omega)) ?_ ?_
      · rw [show 6 * P + (t / 6 ^ r - 6 * P) = t / 6 ^ r by omega]
        exact Nat.div_mul_le_self _ _
      · rw [show 6 * P + (t / 6 ^ r - 6 * P) + 1 = t / 6 ^ r + 1 by omega]
        have w1 := Nat.div_add_mod t (6 ^ r)
        have w2 := Nat.mod_lt t hpos
        rw [Nat.add_mul, Nat.one_mul, Nat.mul_comm]
        omega
    have key : ∀ j, j ≤ c2 l → PB W ((6 * P + (if j = 0 then 0 else fc l (j - 1) + 1)) * 6 ^ r) (itN (fun j s => foK c2 (lf6 a x) r (l + 1) (va_up κ l j) s) j s 0) (itN (fun j s => foK c2 (lf6 a x) r (l + 1) (va_up κ l j) s) j s 1) := by
      intro j
      induction j with
      | zero =>
        intro _
        rw [if_pos rfl, Nat.add_zero, e6, itN]
        exact p
      | succ j ihj =>
        intro hj
        have p1 := ihj (by omega)
        have hf := hfc l ln j (by omega)
        have p2 := gap (if j = 0 then 0 else fc l (j - 1) + 1) (fc l j) _ _ (by
          by_cases q : j = 0
          · rw [if_pos q]; exact Nat.zero_le _
          · rw [if_neg q]
            exact hf.2 (j - 1) (by omega)) (by omega) (fun z z1 z2 k hk e => by
          subst e
          by_cases q : k < j
          · have hj0 : ¬ j = 0 := by omega
            rw [if_neg hj0] at z1
            by_cases q2 : k = j - 1
            · rw [q2] at z1; omega
            · have := (hfc l ln (j - 1) (by omega)).2 k (by omega)
              omega
          · by_cases q2 : k = j
            · rw [q2] at z2; omega
            · have := (hfc l ln k hk).2 j (by omega)
              omega) p1
        have hid : idF (fun i => fc i (va_up κ l j i)) (l + 1) = 6 * P + fc l j := by
          rw [idF, vu_at, if_pos rfl, hP]
          congr 2
          exact idF_congr l (fun i hi => by rw [vu_at, if_neg (by omega)])
        have p3 := ih (l + 1) (by omega) (va_up κ l j) (itN (fun j s => foK c2 (lf6 a x) r (l + 1) (va_up κ l j) s) j s) (fun i hi => by
          rw [vu_at]
          by_cases q : i = l
          · rw [if_pos q, q]; omega
          · rw [if_neg q]; exact hκ i (by omega)) (by rw [hid]; exact p2)
        rw [hid] at p3
        rw [if_neg (by omega), itN, show j + 1 - 1 = j by omega, ← Nat.add_assoc]
        exact p3
    have pe := key (c2 l) (Nat.le_refl _)
    have pf := gap _ 6 _ _ (by
      by_cases q : c2 l = 0
      · rw [if_pos q]; omega
      · rw [if_neg q]
        have := (hfc l ln (c2 l - 1) (by omega)).1
        omega) (Nat.le_refl _) (fun z z1 z2 k hk e => by
      subst e
      have q : ¬ c2 l = 0 := by omega
      rw [if_neg q] at z1
      by_cases q2 : k = c2 l - 1
      · rw [q2] at z1; omega
      · have := (hfc l ln (c2 l - 1) (by omega)).2 k (by omega)
        omega) pe
    rw [show 6 * P + 6 = 6 * (P + 1) by omega, e6] at pf
    rw [foK]
    exact pf
