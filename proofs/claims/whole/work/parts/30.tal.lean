/-! Sums over dice: what a tally over all throws comes to. -/
def sm : Nat → (Nat → Nat) → Nat
  | 0, _ => 0
  | n + 1, f => sm n f + f n
theorem sm_congr {n : Nat} {f g : Nat → Nat} (h : ∀ i, i < n → f i = g i) : sm n f = sm n g := by
  induction n with
  | zero => rfl
  | succ n ih => rw [sm, sm, ih (fun i hi => h i (by omega)), h n (by omega)]
theorem sm_add (n : Nat) (f g : Nat → Nat) : sm n (fun i => f i + g i) = sm n f + sm n g := by
  induction n with
  | zero => rfl
  | succ n ih => simp only [sm, ih]; omega
theorem sm_mulL (n c : Nat) (f : Nat → Nat) : sm n (fun i => c * f i) = c * sm n f := by
  induction n with
  | zero => rfl
  | succ n ih => simp only [sm, ih, Nat.mul_add]
theorem sm_mulR (n c : Nat) (f : Nat → Nat) : sm n (fun i => f i * c) = sm n f * c := by
  induction n with
  | zero => simp [sm]
  | succ n ih => simp only [sm, ih, Nat.add_mul]
theorem sm_0 (n : Nat) : sm n (fun _ => 0) = 0 := by
  induction n with
  | zero => rfl
  | succ n ih => simp only [sm, ih]
theorem sm_swap (n m : Nat) (f : Nat → Nat → Nat) : sm n (fun i => sm m (f i)) = sm m (fun j => sm n (fun i => f i j)) := by
  induction n with
  | zero => simp only [sm, sm_0]
  | succ n ih => simp only [sm, ih, sm_add]
theorem sm_z {n : Nat} {f : Nat → Nat} (h : ∀ i, i < n → f i = 0) : sm n f = 0 := by
  rw [sm_congr h, sm_0]
theorem sm_one {n k : Nat} {f : Nat → Nat} (hk : k < n) (h : ∀ i, i < n → i ≠ k → f i = 0) : sm n f = f k := by
  induction n with
  | zero => omega
  | succ n ih =>
    rw [sm]
    by_cases e : k = n
    · subst e
      rw [sm_z (fun i hi => h i (by omega) (by omega)), Nat.zero_add]
    · rw [ih (by omega) (fun i hi hne => h i (by omega) hne), h n (by omega) (by omega), Nat.add_zero]
/-- sums by classes -/
theorem sm_merge {n m : Nat} {w G t : Nat → Nat} (ht : ∀ i, i < n → w i ≠ 0 → t i < m) : sm n (fun i => w i * G (t i)) = sm m (fun j => sm n (fun i => if t i = j then w i else 0) * G j) := by
  have e : ∀ j, sm n (fun i => if t i = j then w i else 0) * G j = sm n (fun i => (if t i = j then w i else 0) * G j) := fun j => (sm_mulR n _ _).symm
  rw [sm_congr (fun j _ => e j), ← sm_swap]
  refine sm_congr (fun i hi => ?_)
  by_cases h0 : w i = 0
  · rw [sm_z]
    · rw [h0, Nat.zero_mul]
    · intro j hj
      by_cases q : t i = j <;> simp [q, h0]
  · rw [sm_one (ht i hi h0)]
    · rw [if_pos rfl]
    · intro j hj hne
      rw [if_neg (fun q => hne q.symm), Nat.zero_mul]
abbrev FV : Type := (Nat → Nat) → Nat
theorem vu_vu {α : Type} (f : Nat → α) (d : Nat) (x y : α) : va_up (va_up f d x) d y = va_up f d y := by
  funext j
  simp only [vu_at]
  by_cases h : j = d <;> simp [h]
theorem vu_comm {α : Type} (f : Nat → α) {d e : Nat} (h : d ≠ e) (x y : α) : va_up (va_up f d x) e y = va_up (va_up f e y) d x := by
  funext j
  simp only [vu_at]
  by_cases h1 : j = e
  · subst h1
    rw [if_pos rfl, if_neg (fun q => h q.symm), if_pos rfl]
  · rw [if_neg h1, if_neg h1]
section
variable (K : Nat → Nat) (W : Nat → Nat → Nat)
/-- die d thrown -/
def av (d : Nat) (g : FV) (φ : Nat → Nat) : Nat := sm (K d) (fun f => W d f * g (va_up φ d f))
theorem av_comm {d e : Nat} (h : d ≠ e) (g : FV) (φ : Nat → Nat) : av K W d (av K W e g) φ = av K W e (av K W d g) φ := by
  simp only [av, ← sm_mulL]
  rw [sm_swap]
  refine sm_congr (fun x _ => sm_congr (fun y _ => ?_))
  rw [vu_comm φ h, Nat.mul_left_comm]
theorem av_mul (d : Nat) (a g : FV) (φ : Nat → Nat) : av K W d (fun ψ => a ψ * av K W d g ψ) φ = av K W d a φ * av K W d g φ := by
  simp only [av, vu_vu]
  rw [← sm_mulR]
  exact sm_congr (fun i _ => (Nat.mul_assoc _ _ _).symm)
theorem av_add (d : Nat) (a g : FV) (φ : Nat → Nat) : av K W d (fun ψ => a ψ + g ψ) φ = av K W d a φ + av K W d g φ := by
  simp only [av, Nat.mul_add, sm_add]
theorem av_0 (d : Nat) (φ : Nat → Nat) : av K W d (fun _ => 0) φ = 0 := by
  simp only [av, Nat.mul_zero, sm_0]
theorem av_mulL (d c : Nat) (g : FV) (φ : Nat → Nat) : av K W d (fun ψ => c * g ψ) φ = c * av K W d g φ := by
  simp only [av, ← sm_mulL]
  exact sm_congr (fun i _ => Nat.mul_left_comm _ _ _)
/-- all these dice thrown -/
def al : List Nat → FV → (Nat → Nat) → Nat
  | [], g, φ => g φ
  | d :: ds, g, φ => av K W d (al ds g) φ
theorem al_add (ds : List Nat) (a g : FV) : ∀ φ, al K W ds (fun ψ => a ψ + g ψ) φ = al K W ds a φ + al K W ds g φ := by
  induction ds with
  | nil => exact fun φ => rfl
  | cons d ds ih =>
    intro φ
    simp only [al]
    rw [show al K W ds (fun ψ => a ψ + g ψ) = (fun ψ => al K W ds a ψ + al K W ds g ψ) from funext ih, av_add]
theorem al_0 (ds : List Nat) : ∀ φ, al K W ds (fun _ => 0) φ = 0 := by
  induction ds with
  | nil => exact fun φ => rfl
  | cons d ds ih =>
    intro φ
    simp only [al]
    rw [show al K W ds (fun _ => 0) = (fun _ => 0) from funext ih, av_0]
theorem al_mulL (ds : List Nat) (c : Nat) (g : FV) : ∀ φ, al K W ds (fun ψ => c * g ψ) φ = c * al K W ds g φ := by
  induction ds with
  | nil => exact fun φ => rfl
  | cons d ds ih =>
    intro φ
    simp only [al]
    rw [show al K W ds (fun ψ => c * g ψ) = (fun ψ => c * al K W ds g ψ) from funext ih, av_mulL]
theorem al_sm (ds : List Nat) (m : Nat) (F : Nat → FV) (φ : Nat → Nat) : al K W ds (fun ψ => sm m (fun i => F i ψ)) φ = sm m (fun i => al K W ds (F i) φ) := by
  induction m with
  | zero => simp only [sm]; exact al_0 K W ds φ
  | succ m ih => simp only [sm]; rw [al_add, ih]
theorem al_av {d : Nat} (g : FV) (ds : List Nat) (hd : d ∉ ds) : ∀ φ, al K W ds (av K W d g) φ = av K W d (al K W ds g) φ := by
  induction ds with
  | nil => exact fun φ => rfl
  | cons e ds ih =>
    intro φ
    simp only [al]
    rw [List.mem_cons, not_or] at hd
    rw [show al K W ds (av K W d g) = av K W d (al K W ds g) from funext (ih hd.2), av_comm K W (fun q => hd.1 q.symm)]
theorem al_eq {d : Nat} {X Y : FV} (h : ∀ φ, av K W d X φ = av K W d Y φ) (ds : List Nat) (hd : d ∈ ds) : ∀ φ, al K W ds X φ = al K W ds Y φ := by
  induction ds with
  | nil => cases hd
  | cons e ds ih =>
    intro φ
    simp only [al]
    by_cases q : d ∈ ds
    · rw [show al K W ds X = al K W ds Y from funext (ih q)]
    · have e1 : d = e := by
        rcases List.mem_cons.mp hd with h1 | h1
        · exact h1
        · exact absurd h1 q
      subst e1
      rw [← al_av K W X ds q, ← al_av K W Y ds q, show av K W d X = av K W d Y from funext h]
theorem al_self {d : Nat} (a g : FV) (ds : List Nat) (hd : d ∈ ds) (φ : Nat → Nat) : al K W ds (fun ψ => a ψ * av K W d g ψ) φ = al K W ds (fun ψ => av K W d a ψ * g ψ) φ := by
  refine al_eq K W (d := d) (fun φ => ?_) ds hd φ
  rw [av_mul, show (fun ψ => av K W d a ψ * g ψ) = (fun ψ => g ψ * av K W d a ψ) from funext (fun ψ => Nat.mul_comm _ _), av_mul, Nat.mul_comm]
end
theorem lowN_in {am : Nat → Option Nat} {dn : Nat → Bool} {n l : Nat} : ∀ r, lowN am dn n r = some l → r ≤ n → l < n ∧ am l ≠ none ∧ dn l = false := by
  intro r
  induction r with
  | zero => intro h; cases h
  | succ r ih =>
    intro h hr
    rw [lowN] at h
    split at h
    · exact ih h (by omega)
    · rename_i q
      cases h
      rw [not_or] at q
      refine ⟨by omega, q.1, ?_⟩
      cases hd : dn (n - (r + 1))
      · rfl
      · exact absurd hd q.2
theorem lowN_congr {am am' : Nat → Option Nat} {dn dn' : Nat → Bool} {n : Nat} (h1 : ∀ l, l < n → am l = am' l) (h2 : ∀ l, l < n → dn l = dn' l) : ∀ r, r ≤ n → lowN am dn n r = lowN am' dn' n r := by
  intro r
  induction r with
  | zero => exact fun _ => rfl
  | succ r ih =>
    intro hr
    rw [lowN, lowN, h1 _ (by omega), h2 _ (by omega), ih (by omega)]
/-- who has thrown again: law l has, die d fell -/
def dn2 (δ : Nat → Bool) (l d : Nat) : Nat → Bool := fun j => if j = d then false else if j = l then true else δ j
section
variable (n : Nat) (K : Nat → Nat) (W : Nat → Nat → Nat) (A : Nat → Nat → Option Nat)
def lw (δ : Nat → Bool) (φ : Nat → Nat) : Option Nat := lowN (fun l => A l (φ l)) δ n n
/-- the ways behind the first throws, r throws again at most, each by its worth -/
def dfs : Nat → (Nat → Bool) → ((Nat → Nat) → Nat → Nat) → (Nat → Nat) → Nat
  | 0, _, v, φ => v φ 3
  | r + 1, δ, v, φ => match lw n A δ φ with
    | none => 12 ^ (r + 1) * v φ (2 - r)
    | some l => match A l (φ l) with
      | none => 0
      | some d => av K W d (fun ψ => dfs r (dn2 δ l d) v ψ) φ
/-- where the weight u goes to, by how many were thrown again -/
def adj : Nat → (Nat → Bool) → FV → (Nat → Nat) → Nat → Nat
  | 0, _, u, φ, g => if g = 3 then u φ else 0
  | r + 1, δ, u, φ, g => (if g = 2 - r ∧ lw n A δ φ = none then 12 ^ (r + 1) * u φ else 0) + sm n (fun l => sm n (fun d => adj r (dn2 δ l d) (av K W d (fun ψ => if lw n A δ ψ = some l ∧ A l (ψ l) = some d then u ψ else 0)) φ g))
theorem adj_pw (hA : ∀ l f d, l < n → A l f = some d → d < n) (r : Nat) (δ : Nat → Bool) (u : FV) (v : (Nat → Nat) → Nat → Nat) (φ : Nat → Nat) : u φ * dfs n K W A (r + 1) δ v φ = (if lw n A δ φ = none then 12 ^ (r + 1) * u φ else 0) * v φ (2 - r) + sm n (fun l => sm n (fun d => (if lw n A δ φ = some l ∧ A l (φ l) = some d then u φ else 0) * av K W d (dfs n K W A r (dn2 δ l d) v) φ)) := by
  rw [dfs]
  cases hl : lw n A δ φ with
  | none =>
    rw [sm_z (fun l _ => sm_z (fun d _ => by rw [if_neg (fun q => by cases q.1), Nat.zero_mul]))]
    simp only [if_pos, Nat.add_zero]
    rw [Nat.mul_left_comm, Nat.mul_assoc]
  | some l =>
    obtain ⟨h1, h2, h3⟩ := lowN_in n hl (Nat.le_refl _)
    cases hd : A l (φ l) with
    | none => exact absurd hd h2
    | some d =>
      have h4 := hA l _ d h1 hd
      simp only [hd]
      rw [if_neg (fun q => by cases q), Nat.zero_mul, Nat.zero_add]
      rw [sm_one (k := l) h1 (fun e he hne => sm_z (fun x _ => by rw [if_neg (fun q => hne (Option.some.inj q.1).symm), Nat.zero_mul]))]
      rw [sm_one (k := d) h4 (fun e he hne => by rw [if_neg (fun q => hne (Option.some.inj (hd.symm.trans q.2)).symm), Nat.zero_mul]), if_pos ⟨rfl, hd⟩]
theorem adj_ok (hA : ∀ l f d, l < n → A l f = some d → d < n) (ds : List Nat) (hds : ∀ d, d < n → d ∈ ds) (v : (Nat → Nat) → Nat → Nat) : ∀ r, r ≤ 3 → ∀ (δ : Nat → Bool) (u : FV) (φ : Nat → Nat), al K W ds (fun ψ => u ψ * dfs n K W A r δ v ψ) φ = sm 4 (fun g => al K W ds (fun ψ => adj n K W A r δ u ψ g * v ψ g) φ) := by
  intro r
  induction r with
  | zero =>
    intro _ δ u φ
    rw [sm_one (k := 3) (by omega)]
    · simp only [dfs, adj, if_true]
    · intro g _ hne
      simp only [adj, if_neg hne, Nat.zero_mul]
      exact al_0 K W ds φ
  | succ r ih =>
    intro hr δ u φ
    rw [show (fun ψ => u ψ * dfs n K W A (r + 1) δ v ψ) = _ from funext (fun ψ => adj_pw n K W A hA r δ u v ψ)]
    rw [al_add, al_sm]
    rw [sm_congr (fun l _ => al_sm K W ds n (fun d ψ => (if lw n A δ ψ = some l ∧ A l (ψ l) = some d then u ψ else 0) * av K W d (dfs n K W A r (dn2 δ l d) v) ψ) φ)]
    rw [sm_congr (fun l _ => sm_congr (fun d hd => (al_self K W (fun ψ => if lw n A δ ψ = some l ∧ A l (ψ l) = some d then u ψ else 0) (dfs n K W A r (dn2 δ l d) v) ds (hds d hd) φ).trans (ih (by omega) (dn2 δ l d) _ φ)))]
    have e1 : ∀ g, al K W ds (fun ψ => adj n K W A (r + 1) δ u ψ g * v ψ g) φ = al K W ds (fun ψ => (if g = 2 - r ∧ lw n A δ ψ = none then 12 ^ (r + 1) * u ψ else 0) * v ψ g) φ + sm n (fun l => sm n (fun d => al K W ds (fun ψ => adj n K W A r (dn2 δ l d) (av K W d (fun ψ => if lw n A δ ψ = some l ∧ A l (ψ l) = some d then u ψ else 0)) ψ g * v ψ g) φ)) := by
      intro g
      rw [sm_congr (fun l _ => (al_sm K W ds n (fun d ψ => adj n K W A r (dn2 δ l d) (av K W d (fun ψ => if lw n A δ ψ = some l ∧ A l (ψ l) = some d then u ψ else 0)) ψ g * v ψ g) φ).symm), ← al_sm, ← al_add]
      congr 1
      funext ψ
      rw [adj, Nat.add_mul, ← sm_mulR]
      congr 1
      exact sm_congr (fun l _ => (sm_mulR n _ _).symm)
    rw [sm_congr (fun g _ => e1 g), sm_add]
    congr 1
    · rw [sm_one (k := 2 - r) (by omega)]
      · simp only [true_and]
      · intro g _ hne
        rw [show (fun ψ => (if g = 2 - r ∧ lw n A δ ψ = none then 12 ^ (r + 1) * u ψ else 0) * v ψ g) = (fun _ => 0) from funext (fun ψ => by rw [if_neg (fun q => hne q.1), Nat.zero_mul])]
        exact al_0 K W ds φ
    · rw [sm_swap 4 n]
      refine sm_congr (fun l _ => ?_)
      rw [sm_swap 4 n]
end
/-- two systems of faces, t from the one to the other: weights of a class together -/
def faceMap (n : Nat) (K : Nat → Nat) (W : Nat → Nat → Nat) (K' : Nat → Nat) (W' : Nat → Nat → Nat) (t : Nat → Nat → Nat) : Prop := ∀ l, l < n → (∀ f, f < K l → W l f ≠ 0 → t l f < K' l) ∧ ∀ j, j < K' l → W' l j = sm (K l) (fun f => if t l f = j then W l f else 0)
def gdF (n : Nat) (K : Nat → Nat) (W : Nat → Nat → Nat) (ds : List Nat) (φ : Nat → Nat) : Prop := ∀ l, l < n → l ∉ ds → φ l < K l ∧ W l (φ l) ≠ 0
def tF (t : Nat → Nat → Nat) (φ : Nat → Nat) : Nat → Nat := fun l => t l (φ l)
theorem tF_up (t : Nat → Nat → Nat) (φ : Nat → Nat) (d f : Nat) : tF t (va_up φ d f) = va_up (tF t φ) d (t d f) := by
  funext j
  simp only [tF, vu_at]
  by_cases h : j = d
  · subst h; simp
  · simp [h]
section
variable {n : Nat} {K : Nat → Nat} {W : Nat → Nat → Nat} {K' : Nat → Nat} {W' : Nat → Nat → Nat} {t : Nat → Nat → Nat}
theorem gdF_up {ds : List Nat} {φ : Nat → Nat} {d f : Nat} (hg : gdF n K W (d :: ds) φ) (hf : f < K d) (hw : W d f ≠ 0) : gdF n K W ds (va_up φ d f) := by
  intro l hl hd
  simp only [vu_at]
  by_cases q : l = d
  · subst q
    rw [if_pos rfl]
    exact ⟨hf, hw⟩
  · rw [if_neg q]
    exact hg l hl (by rw [List.mem_cons, not_or]; exact ⟨q, hd⟩)
theorem av_map (hm : faceMap n K W K' W' t) {d : Nat} (hd : d < n) {g g' : FV} {φ : Nat → Nat} (h : ∀ f, f < K d → W d f ≠ 0 → g (va_up φ d f) = g' (tF t (va_up φ d f))) : av K W d g φ = av K' W' d g' (tF t φ) := by
  obtain ⟨h1, h2⟩ := hm d hd
  have e1 : av K W d g φ = sm (K d) (fun f => W d f * g' (va_up (tF t φ) d (t d f))) := by
    refine sm_congr (fun f hf => ?_)
    by_cases q : W d f = 0
    · rw [q, Nat.zero_mul, Nat.zero_mul]
    · rw [h f hf q, tF_up]
  rw [e1, sm_merge (t := t d) (G := fun j => g' (va_up (tF t φ) d j)) h1]
  exact sm_congr (fun j hj => by rw [h2 j hj])
theorem al_map (hm : faceMap n K W K' W' t) {g g' : FV} (h : ∀ ψ, gdF n K W [] ψ → g ψ = g' (tF t ψ)) : ∀ (ds : List Nat), (∀ d ∈ ds, d < n) → ∀ φ, gdF n K W ds φ → al K W ds g φ = al K' W' ds g' (tF t φ) := by
  intro ds
  induction ds with
  | nil => exact fun _ φ hφ => h φ hφ
  | cons d ds ih =>
    intro hds φ hφ
    simp only [al]
    exact av_map hm (hds d List.mem_cons_self) (fun f hf hw => ih (fun e he => hds e (List.mem_cons_of_mem _ he)) _ (gdF_up hφ hf hw))
theorem gdF_1 {φ : Nat → Nat} {d f : Nat} (hg : gdF n K W [] φ) (hf : f < K d) (hw : W d f ≠ 0) : gdF n K W [] (va_up φ d f) := gdF_up (fun l hl _ => hg l hl (by simp)) hf hw
theorem lw_map {A A' : Nat → Nat → Option Nat} (hA : ∀ l f, l < n → f < K l → W l f ≠ 0 → A l f = A' l (t l f)) (δ : Nat → Bool) {φ : Nat → Nat} (hg : gdF n K W [] φ) : lw n A δ φ = lw n A' δ (tF t φ) :=
  lowN_congr (fun l hl => by obtain ⟨h1, h2⟩ := hg l hl (by simp); exact hA l (φ l) hl h1 h2) (fun _ _ => rfl) n (Nat.le_refl _)
theorem adj_map (hm : faceMap n K W K' W' t) {A A' : Nat → Nat → Option Nat} (hA : ∀ l f, l < n → f < K l → W l f ≠ 0 → A l f = A' l (t l f)) : ∀ (r : Nat) (δ : Nat → Bool) (u u' : FV), (∀ ψ, gdF n K W [] ψ → u ψ = u' (tF t ψ)) → ∀ φ g, gdF n K W [] φ → adj n K W A r δ u φ g = adj n K' W' A' r δ u' (tF t φ) g := by
  intro r
  induction r with
  | zero =>
    intro δ u u' h φ g hφ
    simp only [adj, h φ hφ]
  | succ r ih =>
    intro δ u u' h φ g hφ
    simp only [adj, lw_map hA δ hφ, h φ hφ]
    congr 1
    refine sm_congr (fun l hl => sm_congr (fun d hd => ?_))
    refine ih _ _ _ (fun ψ hψ => ?_) φ g hφ
    refine av_map hm hd (fun f hf hw => ?_)
    have hψ' := gdF_1 hψ hf hw
    obtain ⟨q1, q2⟩ := hψ' l hl (by simp)
    rw [lw_map hA δ hψ', h _ hψ', hA l _ hl q1 q2]
    rfl
end
/-- the weight of one lie of all dice -/
def pw (W : Nat → Nat → Nat) : List Nat → (Nat → Nat) → Nat
  | [], _ => 1
  | d :: ds, φ => W d (φ d) * pw W ds φ
theorem al_delta {K : Nat → Nat} {W : Nat → Nat → Nat} (G : FV) (ψ : Nat → Nat) : ∀ (ds : List Nat), ds.Nodup → (∀ d ∈ ds, ψ d < K d) → ∀ (D : (Nat → Nat) → Bool) φ, (∀ χ, (∀ j, j ∉ ds → χ j = φ j) → (∀ d ∈ ds, χ d < K d) → (D χ = true ↔ ∀ d ∈ ds, χ d = ψ d)) → al K W ds (fun χ => G χ * if D χ = true then 1 else 0) φ = pw W ds ψ * G (fun j => if j ∈ ds then ψ j else φ j) := by
  intro ds
  induction ds with
  | nil =>
    intro _ _ D φ h
    have h1 := (h φ (fun _ _ => rfl) (by simp)).mpr (by simp)
    simp [al, pw, h1]
  | cons d ds ih =>
    intro hn hk D φ h
    rw [List.nodup_cons] at hn
    simp only [al, av, pw]
    rw [sm_one (hk d List.mem_cons_self)]
    · have e5 : (fun j => if j ∈ ds then ψ j else va_up φ d (ψ d) j) = (fun j => if j ∈ d :: ds then ψ j else φ j) := by
        funext j
        by_cases q : j = d
        · subst q
          simp [hn.1, vu_at]
        · simp [List.mem_cons, q, vu_at]
      rw [ih hn.2 (fun e he => hk e (List.mem_cons_of_mem _ he)) D (va_up φ d (ψ d)), Nat.mul_assoc, e5]
      · intro χ h1 h2
        have e1 : χ d = ψ d := by rw [h1 d hn.1]; simp [vu_at]
        rw [h χ]
        · constructor
          · exact fun q e he => q e (List.mem_cons_of_mem _ he)
          · intro q e he
            rcases List.mem_cons.mp he with e2 | e2
            · rw [e2]; exact e1
            · exact q e e2
        · intro j hj
          rw [List.mem_cons, not_or] at hj
          rw [h1 j hj.2]
          simp [vu_at, hj.1]
        · intro e he
          rcases List.mem_cons.mp he with e2 | e2
          · rw [e2, e1]; exact hk d List.mem_cons_self
          · exact h2 e e2
    · intro f hf hne
      have : al K W ds (fun χ => G χ * if D χ = true then 1 else 0) (va_up φ d f) = 0 := by
        clear ih
        have key : ∀ (es : List Nat), (∀ e ∈ es, e ∈ ds) → ∀ χ, (∀ j, j ∉ d :: ds → χ j = φ j) → χ d = f → (∀ e ∈ ds, e ∉ es → χ e < K e) → al K W es (fun χ => G χ * if D χ = true then 1 else 0) χ = 0 := by
          intro es
          induction es with
          | nil =>
            intro _ χ h1 h2 h3
            simp only [al]
            rw [if_neg, Nat.mul_zero]
            intro q
            have := (h χ h1 (fun e he => by
              rcases List.mem_cons.mp he with e2 | e2
              · rw [e2, h2]; exact hf
              · exact h3 e e2 (by simp))).mp q d List.mem_cons_self
            exact hne (h2.symm.trans this)
          | cons e es ih =>
            intro hs χ h1 h2 h3
            simp only [al, av]
            refine sm_z (fun x hx => ?_)
            have he := hs e List.mem_cons_self
            have hed : e ≠ d := fun q => hn.1 (q ▸ he)
            rw [ih (fun y hy => hs y (List.mem_cons_of_mem _ hy)) (va_up χ e x), Nat.mul_zero]
            · intro j hj
              rw [List.mem_cons, not_or] at hj
              have : j ≠ e := fun q => hj.2 (q ▸ he)
              simp only [vu_at, if_neg this]
              exact h1 j (by rw [List.mem_cons, not_or]; exact hj)
            · simp only [vu_at]
              rw [if_neg (fun q => hed q.symm)]
              exact h2
            · intro y hy hys
              simp only [vu_at]
              by_cases q : y = e
              · rw [if_pos q, q]; exact hx
              · rw [if_neg q]
                exact h3 y hy (by rw [List.mem_cons, not_or]; exact ⟨q, hys⟩)
        exact key ds (fun _ h => h) _ (fun j hj => by
          rw [List.mem_cons, not_or] at hj
          simp [vu_at, hj.1]) (by simp [vu_at]) (fun e he hne => absurd he hne)
      rw [this, Nat.mul_zero]
