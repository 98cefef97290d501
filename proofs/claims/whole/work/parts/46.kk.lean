/-! What a tally comes to by types, by kinds. -/
def resp (n : Nat) (g : FV) : Prop := ∀ ψ ψ', (∀ j, j < n → ψ j = ψ' j) → g ψ = g ψ'
theorem resp_up {n d x : Nat} {ψ ψ' : Nat → Nat} (h : ∀ j, j < n → ψ j = ψ' j) : ∀ j, j < n → va_up ψ d x j = va_up ψ' d x j := by
  intro j hj
  simp only [vu_at, h j hj]
theorem resp_av {n d : Nat} {K : Nat → Nat} {W : Nat → Nat → Nat} {g : FV} (h : resp n g) : resp n (av K W d g) := fun ψ ψ' e => sm_congr (fun f _ => by rw [h _ _ (resp_up e)])
theorem resp_lw {n : Nat} {A : Nat → Nat → Option Nat} {δ : Nat → Bool} {ψ ψ' : Nat → Nat} (e : ∀ j, j < n → ψ j = ψ' j) : lw n A δ ψ = lw n A δ ψ' := lowN_congr (fun l hl => by rw [e l hl]) (fun _ _ => rfl) n (Nat.le_refl _)
theorem resp_adj {n : Nat} {K : Nat → Nat} {W : Nat → Nat → Nat} {A : Nat → Nat → Option Nat} {g : Nat} : ∀ (r : Nat) (δ : Nat → Bool) (u : FV), resp n u → resp n (fun ψ => adj n K W A r δ u ψ g) := by
  intro r
  induction r with
  | zero =>
    intro δ u h ψ ψ' e
    simp only [adj, h ψ ψ' e]
  | succ r ih =>
    intro δ u h ψ ψ' e
    simp only [adj, resp_lw e, h ψ ψ' e]
    congr 1
    refine sm_congr (fun l hl => sm_congr (fun d hd => ih _ _ (resp_av (fun χ χ' q => ?_)) ψ ψ' e))
    rw [resp_lw q, q l hl, h χ χ' q]
theorem al_ext {n : Nat} {K : Nat → Nat} {W : Nat → Nat → Nat} {g : FV} (h : resp n g) : ∀ (ds : List Nat) (φ φ' : Nat → Nat), (∀ j, j < n → j ∉ ds → φ j = φ' j) → al K W ds g φ = al K W ds g φ' := by
  intro ds
  induction ds with
  | nil => exact fun φ φ' e => h φ φ' (fun j hj => e j hj (by simp))
  | cons d ds ih =>
    intro φ φ' e
    simp only [al]
    refine sm_congr (fun f _ => ?_)
    rw [ih _ (va_up φ' d f) (fun j hj hd => ?_)]
    simp only [vu_at]
    by_cases q : j = d
    · rw [if_pos q, if_pos q]
    · rw [if_neg q, if_neg q]
      exact e j hj (by rw [List.mem_cons, not_or]; exact ⟨q, hd⟩)
theorem al_good {n : Nat} {K : Nat → Nat} {W : Nat → Nat → Nat} {g g' : FV} (h : ∀ ψ, gdF n K W [] ψ → g ψ = g' ψ) : ∀ (ds : List Nat), ∀ φ, gdF n K W ds φ → al K W ds g φ = al K W ds g' φ := by
  intro ds
  induction ds with
  | nil => exact fun φ hφ => h φ hφ
  | cons d ds ih =>
    intro φ hφ
    simp only [al, av]
    refine sm_congr (fun f hf => ?_)
    by_cases q : W d f = 0
    · rw [q, Nat.zero_mul, Nat.zero_mul]
    · rw [ih _ (gdF_up hφ hf q)]
theorem gd_all {n : Nat} {K : Nat → Nat} {W : Nat → Nat → Nat} {φ : Nat → Nat} : gdF n K W (List.range' 0 n) φ := fun l hl hd => absurd (List.mem_range'_1.mpr ⟨Nat.zero_le _, by omega⟩) hd
theorem mem_r {n d : Nat} (h : d < n) : d ∈ List.range' 0 n := List.mem_range'_1.mpr ⟨Nat.zero_le _, by omega⟩
theorem r_mem {n d : Nat} (h : d ∈ List.range' 0 n) : d < n := by have := (List.mem_range'_1.mp h).2; omega
theorem ix_inj {ct φ ψ : Nat → Nat} : ∀ m, (∀ l, l < m → φ l < ct l) → (∀ l, l < m → ψ l < ct l) → ixF ct m φ = ixF ct m ψ → ∀ l, l < m → φ l = ψ l
  | 0, _, _, _ => fun l hl => absurd hl (Nat.not_lt_zero _)
  | m + 1, h1, h2, he => by
    have a1 := ix_lt (ct := ct) (φ := φ) m (fun l hl => h1 l (by omega))
    have a2 := ix_lt (ct := ct) (φ := ψ) m (fun l hl => h2 l (by omega))
    have he : ixF ct m φ + φ m * pst ct m = ixF ct m ψ + ψ m * pst ct m := he
    have e1 : φ m = ψ m := by
      rcases Nat.lt_trichotomy (φ m) (ψ m) with q | q | q
      · have := Nat.mul_le_mul_right (pst ct m) (Nat.succ_le_of_lt q)
        rw [Nat.succ_mul] at this
        omega
      · exact q
      · have := Nat.mul_le_mul_right (pst ct m) (Nat.succ_le_of_lt q)
        rw [Nat.succ_mul] at this
        omega
    have e2 : ixF ct m φ = ixF ct m ψ := by rw [e1] at he; omega
    intro l hl
    by_cases q : l = m
    · rw [q]; exact e1
    · exact ix_inj m (fun l hl => h1 l (by omega)) (fun l hl => h2 l (by omega)) e2 l (by omega)
/-- the weight of types τ, as far as it isn't theirs, by how many are thrown again -/
def KG (n : Nat) (ct : Nat → Nat) (sh : Nat → Nat → Nat) (A : Nat → Nat → Option Nat) (τ : Nat → Nat) (g : Nat) : Nat := adj n ct sh A 3 (fun _ => false) (fun _ => 1) τ g
def KK (n : Nat) (ct : Nat → Nat) (sh : Nat → Nat → Nat) (A : Nat → Nat → Option Nat) (τ : Nat → Nat) : Nat := sm 4 (fun g => KG n ct sh A τ g)
theorem KG_resp {n : Nat} {ct : Nat → Nat} {sh : Nat → Nat → Nat} {A : Nat → Nat → Option Nat} (g : Nat) : resp n (fun τ => KG n ct sh A τ g) := resp_adj 3 _ _ (fun _ _ _ => rfl)
theorem KK_resp {n : Nat} {ct : Nat → Nat} {sh : Nat → Nat → Nat} {A : Nat → Nat → Option Nat} : resp n (KK n ct sh A) := fun ψ ψ' e => sm_congr (fun g _ => KG_resp g ψ ψ' e)
section
variable {n : Nat} {ct : Nat → Nat} {sg : Nat → Nat → Int32} {sh : Nat → Nat → Nat} {A : Nat → Nat → Option Nat}
/-- the ends of a toss -/
theorem ends_eq (hA : ∀ l f d, l < n → A l f = some d → d < n) {τ : Nat → Nat} (hτ : ∀ l, l < n → τ l < ct l) (hi : ixF ct n τ < 7776) (φ0 : Nat → Nat) : al ct sh (List.range' 0 n) (dfs n ct sh A 3 (fun _ => false) (valE ct n (ixF ct n τ))) φ0 = pw sh (List.range' 0 n) τ * KK n ct sh A τ := by
  have h1 := adj_ok n ct sh A hA (List.range' 0 n) (fun d hd => mem_r hd) (valE ct n (ixF ct n τ)) 3 (by omega) (fun _ => false) (fun _ => 1) φ0
  simp only [Nat.one_mul] at h1
  rw [show al ct sh (List.range' 0 n) (dfs n ct sh A 3 (fun _ => false) (valE ct n (ixF ct n τ))) φ0 = al ct sh (List.range' 0 n) (fun ψ => dfs n ct sh A 3 (fun _ => false) (valE ct n (ixF ct n τ)) ψ) φ0 from rfl, h1, KK, ← sm_mulL]
  refine sm_congr (fun g _ => ?_)
  have h2 := al_delta (K := ct) (W := sh) (fun ψ => KG n ct sh A ψ g) τ (List.range' 0 n) (List.nodup_range' 1) (fun d hd => hτ d (r_mem hd)) (fun χ => decide (ixF ct n χ = ixF ct n τ)) φ0 (fun χ h3 h4 => by
    rw [decide_eq_true_iff]
    constructor
    · exact fun q d hd => ix_inj n (fun l hl => h4 l (mem_r hl)) hτ q d (r_mem hd)
    · exact fun q => sm_congr (fun l hl => by rw [q l (mem_r hl)]))
  rw [show (fun ψ => adj n ct sh A 3 (fun _ => false) (fun _ => 1) ψ g * valE ct n (ixF ct n τ) ψ g) = (fun χ => (fun ψ => KG n ct sh A ψ g) χ * if decide (ixF ct n χ = ixF ct n τ) = true then 1 else 0) from funext (fun χ => by
    rw [valE, if_pos hi]
    show KG n ct sh A χ g * _ = KG n ct sh A χ g * _
    congr 1
    exact if_cgr (by rw [decide_eq_true_iff])), h2]
  congr 1
  exact KG_resp g _ _ (fun j hj => by rw [if_pos (mem_r hj)])
/-- how many were thrown again -/
theorem thrown_eq (hA : ∀ l f d, l < n → A l f = some d → d < n) {g : Nat} (hg : g < 4) (φ0 : Nat → Nat) : al ct sh (List.range' 0 n) (dfs n ct sh A 3 (fun _ => false) (valE ct n (7776 + g))) φ0 = al ct sh (List.range' 0 n) (fun τ => KG n ct sh A τ g) φ0 := by
  have h1 := adj_ok n ct sh A hA (List.range' 0 n) (fun d hd => mem_r hd) (valE ct n (7776 + g)) 3 (by omega) (fun _ => false) (fun _ => 1) φ0
  simp only [Nat.one_mul] at h1
  rw [show al ct sh (List.range' 0 n) (dfs n ct sh A 3 (fun _ => false) (valE ct n (7776 + g))) φ0 = al ct sh (List.range' 0 n) (fun ψ => dfs n ct sh A 3 (fun _ => false) (valE ct n (7776 + g)) ψ) φ0 from rfl, h1, sm_one hg]
  · congr 1
    funext ψ
    rw [valE, if_neg (by omega), if_pos rfl, Nat.mul_one]
    rfl
  · intro i hi hne
    rw [show (fun ψ => adj n ct sh A 3 (fun _ => false) (fun _ => 1) ψ i * valE ct n (7776 + g) ψ i) = (fun _ => 0) from funext (fun ψ => by rw [valE, if_neg (by omega), if_neg (by omega), Nat.mul_zero])]
    exact al_0 _ _ _ _
/-- a tally over faces, by types -/
theorem tally_eq {K1 : Nat → Nat} {W1 : Nat → Nat → Nat} {A1 : Nat → Nat → Option Nat} {t : Nat → Nat → Nat} (hm : faceMap n K1 W1 ct sh t) (hA1 : ∀ l f d, l < n → A1 l f = some d → d < n) (hAt : ∀ l f, l < n → f < K1 l → W1 l f ≠ 0 → A1 l f = A l (t l f)) (v : (Nat → Nat) → Nat → Nat) (φ0 : Nat → Nat) : al K1 W1 (List.range' 0 n) (dfs n K1 W1 A1 3 (fun _ => false) v) φ0 = sm 4 (fun g => al K1 W1 (List.range' 0 n) (fun φ => KG n ct sh A (tF t φ) g * v φ g) φ0) := by
  have h1 := adj_ok n K1 W1 A1 hA1 (List.range' 0 n) (fun d hd => mem_r hd) v 3 (by omega) (fun _ => false) (fun _ => 1) φ0
  simp only [Nat.one_mul] at h1
  rw [show al K1 W1 (List.range' 0 n) (dfs n K1 W1 A1 3 (fun _ => false) v) φ0 = al K1 W1 (List.range' 0 n) (fun ψ => dfs n K1 W1 A1 3 (fun _ => false) v ψ) φ0 from rfl, h1]
  refine sm_congr (fun g _ => al_good (fun ψ hψ => ?_) _ φ0 gd_all)
  rw [adj_map hm hAt 3 _ (fun _ => 1) (fun _ => 1) (fun _ _ => rfl) ψ g hψ]
  rfl
/-- bounds -/
theorem al_le {K : Nat → Nat} {W : Nat → Nat → Nat} {g g' : FV} (h : ∀ ψ, g ψ ≤ g' ψ) : ∀ (ds : List Nat) φ, al K W ds g φ ≤ al K W ds g' φ := by
  intro ds
  induction ds with
  | nil => exact fun φ => h φ
  | cons d ds ih =>
    intro φ
    simp only [al, av]
    have : ∀ m, sm m (fun f => W d f * al K W ds g (va_up φ d f)) ≤ sm m (fun f => W d f * al K W ds g' (va_up φ d f)) := by
      intro m
      induction m with
      | zero => exact Nat.le_refl _
      | succ m ihm =>
        rw [sm, sm]
        exact Nat.add_le_add ihm (Nat.mul_le_mul_left _ (ih _))
    exact this _
theorem dfs_le {K : Nat → Nat} {W : Nat → Nat → Nat} {B : Nat → Nat → Option Nat} {v v' : (Nat → Nat) → Nat → Nat} (h : ∀ ψ g, v ψ g ≤ v' ψ g) : ∀ (r : Nat) (δ : Nat → Bool) φ, dfs n K W B r δ v φ ≤ dfs n K W B r δ v' φ := by
  intro r
  induction r with
  | zero => exact fun δ φ => h φ 3
  | succ r ih =>
    intro δ φ
    rw [dfs, dfs]
    cases lw n B δ φ with
    | none => exact Nat.mul_le_mul_left _ (h φ _)
    | some l =>
      dsimp only
      cases B l (φ l) with
      | none => exact Nat.le_refl _
      | some d =>
        dsimp only
        exact al_le (K := K) (W := W) (g := fun ψ => dfs n K W B r (dn2 δ l d) v ψ) (g' := fun ψ => dfs n K W B r (dn2 δ l d) v' ψ) (fun ψ => ih _ ψ) [d] φ
theorem dfs_1 {K : Nat → Nat} {W : Nat → Nat → Nat} {B : Nat → Nat → Option Nat} (hB : ∀ l f d, l < n → B l f = some d → d < n) (h12 : ∀ l, l < n → sm (K l) (W l) = 12) : ∀ (r : Nat) (δ : Nat → Bool) φ, dfs n K W B r δ (fun _ _ => 1) φ = 12 ^ r := by
  intro r
  induction r with
  | zero => exact fun _ _ => rfl
  | succ r ih =>
    intro δ φ
    rw [dfs]
    cases hl : lw n B δ φ with
    | none => exact Nat.mul_one _
    | some l =>
      obtain ⟨q1, q2, q3⟩ := lowN_in n hl (Nat.le_refl _)
      dsimp only
      cases hd : B l (φ l) with
      | none => exact absurd hd q2
      | some d =>
        dsimp only
        rw [show (fun ψ => dfs n K W B r (dn2 δ l d) (fun _ _ => 1) ψ) = (fun _ => 12 ^ r) from funext (fun ψ => ih _ ψ)]
        simp only [av]
        rw [sm_mulR, h12 d (hB l _ d q1 hd), Nat.pow_succ, Nat.mul_comm]
theorem al_const {K : Nat → Nat} {W : Nat → Nat → Nat} (h12 : ∀ l, l < n → sm (K l) (W l) = 12) (c : Nat) : ∀ (ds : List Nat), (∀ d ∈ ds, d < n) → ∀ φ, al K W ds (fun _ => c) φ = 12 ^ ds.length * c := by
  intro ds
  induction ds with
  | nil => intro _ φ; simp [al]
  | cons d ds ih =>
    intro h φ
    simp only [al]
    rw [show al K W ds (fun _ => c) = (fun _ => 12 ^ ds.length * c) from funext (ih (fun e he => h e (List.mem_cons_of_mem _ he)))]
    simp only [av]
    rw [sm_mulR, h12 d (h d List.mem_cons_self), List.length_cons, Nat.pow_succ]
    rw [Nat.mul_comm (12 ^ ds.length) 12, Nat.mul_assoc]
/-- a tally of what is at most once so -/
theorem tally_le {K : Nat → Nat} {W : Nat → Nat → Nat} {B : Nat → Nat → Option Nat} (hB : ∀ l f d, l < n → B l f = some d → d < n) (h12 : ∀ l, l < n → sm (K l) (W l) = 12) {v : (Nat → Nat) → Nat → Nat} (hv : ∀ ψ g, v ψ g ≤ 1) (φ : Nat → Nat) : al K W (List.range' 0 n) (dfs n K W B 3 (fun _ => false) v) φ ≤ 12 ^ (n + 3) := by
  have h1 := al_le (K := K) (W := W) (g := dfs n K W B 3 (fun _ => false) v) (g' := fun _ => 12 ^ 3) (fun ψ => by
    have := dfs_le (K := K) (W := W) (B := B) (n := n) hv 3 (fun _ => false) ψ
    rw [dfs_1 hB h12] at this
    exact this) (List.range' 0 n) φ
  rw [al_const h12 _ _ (fun d hd => r_mem hd), List.length_range', ← Nat.pow_add] at h1
  exact h1
end
