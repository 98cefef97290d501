/-! The class's Tomorrow: sums over dice that were not looked at. -/
theorem dfs_congr {n : Nat} {K : Nat → Nat} {W : Nat → Nat → Nat} {A : Nat → Nat → Option Nat} (v : (Nat → Nat) → Nat → Nat) : ∀ (r : Nat) (δ δ' : Nat → Bool) (φ : Nat → Nat), (∀ j, j < n → δ j = δ' j) → dfs n K W A r δ v φ = dfs n K W A r δ' v φ := by
  intro r
  induction r with
  | zero => exact fun _ _ _ _ => rfl
  | succ r ih =>
    intro δ δ' φ h
    rw [dfs, dfs]
    have e : lw n A δ φ = lw n A δ' φ := lowN_congr (fun _ _ => rfl) h n (Nat.le_refl _)
    rw [e]
    cases lw n A δ' φ with
    | none => rfl
    | some l =>
      dsimp only
      cases A l (φ l) with
      | none => rfl
      | some d =>
        dsimp only
        congr 1
        funext ψ
        refine ih _ _ ψ (fun j hj => ?_)
        simp only [dn2, h j hj]
def mkM (dn l d : Nat) : Nat := if (dn ||| 2 ^ l).testBit d = true then (dn ||| 2 ^ l) - 2 ^ d else dn ||| 2 ^ l
theorem mask_of : ∀ dn, dn < 32 → ∀ l, l < 5 → ∀ d, d < 5 → ((nI dn ||| (nI 1 <<< (nI l &&& 31))) &&& ((nI 1 <<< (nI d &&& 31)) ^^^ (-nI 1)) = nI (mkM dn l d) ∧ mkM dn l d < 32 ∧ ∀ j, j < 5 → (mkM dn l d).testBit j = dn2 dn.testBit l d j) := by decide +kernel
/-- the steps: kinds of the laws ahead, multiplied -/
def pst (ct : Nat → Nat) : Nat → Nat
  | 0 => 1
  | l + 1 => pst ct l * ct l
def ixF (ct : Nat → Nat) (n : Nat) (φ : Nat → Nat) : Nat := sm n (fun l => φ l * pst ct l)
theorem ix_lt {ct φ : Nat → Nat} : ∀ n, (∀ l, l < n → φ l < ct l) → ixF ct n φ < pst ct n
  | 0, _ => Nat.lt_succ_self 0
  | n + 1, h => by
    have h1 := ix_lt n (fun l hl => h l (by omega))
    have h2 : (φ n + 1) * pst ct n ≤ ct n * pst ct n := Nat.mul_le_mul_right _ (h n (by omega))
    rw [Nat.add_mul, Nat.one_mul, Nat.mul_comm (ct n)] at h2
    unfold ixF at h1 ⊢
    rw [sm, pst]
    omega
theorem pst_le {ct : Nat → Nat} : ∀ n, (∀ l, l < n → ct l ≤ 6) → pst ct n ≤ 6 ^ n
  | 0, _ => Nat.le_refl 1
  | n + 1, h => by
    have h1 := pst_le n (fun l hl => h l (by omega))
    rw [pst, Nat.pow_succ]
    exact Nat.mul_le_mul h1 (h n (by omega))
theorem pst_7776 {ct : Nat → Nat} {n : Nat} (n5 : n ≤ 5) (h : ∀ l, l < n → ct l ≤ 6) : pst ct n ≤ 7776 :=
  Nat.le_trans (pst_le n h) (Nat.le_trans (Nat.pow_le_pow_right (by decide) n5) (by decide))
theorem sm_up {n d x : Nat} {φ : Nat → Nat} {g : Nat → Nat} : ∀ m, d < m → sm m (fun l => va_up φ d x l * g l) + φ d * g d = sm m (fun l => φ l * g l) + x * g d
  | 0, h => by omega
  | m + 1, h => by
    rw [sm, sm]
    by_cases e : d = m
    · subst e
      have : sm d (fun l => va_up φ d x l * g l) = sm d (fun l => φ l * g l) := sm_congr (fun i hi => by rw [vu_at, if_neg (by omega)])
      rw [this, vu_at, if_pos rfl]
      omega
    · have := sm_up (n := n) (d := d) (x := x) (φ := φ) (g := g) m (by omega)
      rw [vu_at, if_neg (fun q => e q.symm)]
      omega
theorem sm_ge {n d : Nat} {f : Nat → Nat} : ∀ m, d < m → f d ≤ sm m f
  | 0, h => by omega
  | m + 1, h => by
    rw [sm]
    by_cases e : d = m
    · subst e; omega
    · have := sm_ge (n := n) (d := d) (f := f) m (by omega)
      omega
theorem ix_up {ct φ : Nat → Nat} {n d x : Nat} (hd : d < n) : ixF ct n φ - φ d * pst ct d + x * pst ct d = ixF ct n (va_up φ d x) := by
  have h1 := sm_up (n := n) (d := d) (x := x) (φ := φ) (g := pst ct) n hd
  have h2 := sm_ge (n := n) (d := d) (f := fun l => φ l * pst ct l) n hd
  unfold ixF
  omega
def valE (ct : Nat → Nat) (n c : Nat) (φ : Nat → Nat) (g : Nat) : Nat := if c < 7776 then (if ixF ct n φ = c then 1 else 0) else if 7776 + g = c then 1 else 0
def HE (sz : Nat) (h : Hp) (acc : Nat → Nat) : Prop := (∀ i, i < sz → hL h 53 i = lN (acc i)) ∧ ∀ g, g < 4 → hL h 54 g = lN (acc (7776 + g))
section
variable {D : Nat} {h : Hp} {Q : Option Value → Hp → Prop}
theorem ev_prim {k : Nat} {vs : List Value} {v : Value} (hk : k = 277 ∨ k = 278 ∨ k = 279) (e : pMath k vs h = some (some v, h)) : Ev (D + 1) k vs h Q = Q (some v) h := by
  have e1 : ∀ N, xCall N (D + 1) k vs h = some (some v, h) := fun N => by rw [xCall, if_pos hk]; exact e
  apply propext
  constructor
  · rintro ⟨N, v', h1, e2, q⟩
    rw [e1] at e2
    cases e2
    exact q
  · exact fun q => ⟨0, _, _, e1 0, q⟩
theorem ev_max {x y : Int64} : Ev (D + 1) 277 [.long x, .long y] h Q = Q (some (.long (if y < x then x else y))) h := ev_prim (Or.inl rfl) (by simp [pMath])
theorem ev_minI {x y : Int32} : Ev (D + 1) 278 [.int x, .int y] h Q = Q (some (.int (if y < x then y else x))) h := ev_prim (Or.inr (Or.inl rfl)) (by simp [pMath])
theorem ev_min {x y : Int64} : Ev (D + 1) 279 [.long x, .long y] h Q = Q (some (.long (if y < x then y else x))) h := ev_prim (Or.inr (Or.inr rfl)) (by simp [pMath])
end

/-- dice not looked at, of l .. l + k - 1 -/
def uL (u : Nat → Bool) : Nat → Nat → List Nat
  | 0, _ => []
  | k + 1, l => if u l = true then l :: uL u k (l + 1) else uL u k (l + 1)
theorem uL_t {u : Nat → Bool} {k l : Nat} (h : u l = true) : uL u (k + 1) l = l :: uL u k (l + 1) := by rw [uL, if_pos h]
theorem uL_f {u : Nat → Bool} {k l : Nat} (h : u l = false) : uL u (k + 1) l = uL u k (l + 1) := by rw [uL, if_neg (by rw [h]; decide)]
theorem uL_mem {u : Nat → Bool} {d : Nat} : ∀ k l, d ∈ uL u k l ↔ (l ≤ d ∧ d < l + k) ∧ u d = true
  | 0, l => by
    rw [uL]
    constructor
    · intro h; cases h
    · intro h; omega
  | k + 1, l => by
    have ih := uL_mem (u := u) (d := d) k (l + 1)
    cases h : u l
    · rw [uL_f h, ih]
      constructor
      · exact fun q => ⟨by omega, q.2⟩
      · intro q
        refine ⟨?_, q.2⟩
        by_cases e : d = l
        · rw [e, h] at q; cases q.2
        · omega
    · rw [uL_t h, List.mem_cons, ih]
      constructor
      · rintro (q | q)
        · rw [q]; exact ⟨by omega, h⟩
        · exact ⟨by omega, q.2⟩
      · intro q
        by_cases e : d = l
        · exact Or.inl e
        · exact Or.inr ⟨by omega, q.2⟩
theorem uL_congr {u u' : Nat → Bool} : ∀ k l, (∀ i, l ≤ i → i < l + k → u i = u' i) → uL u k l = uL u' k l
  | 0, _, _ => rfl
  | k + 1, l, h => by
    rw [uL, uL, h l (by omega) (by omega), uL_congr k (l + 1) (fun i h1 h2 => h i (by omega) (by omega))]
theorem uL_all : ∀ k l, uL (fun _ => true) k l = List.range' l k
  | 0, _ => rfl
  | k + 1, l => by rw [uL_t rfl, uL_all k (l + 1)]; rfl
theorem uL_skip {u : Nat → Bool} {k : Nat} : ∀ m l, (∀ i, l ≤ i → i < l + m → u i = false) → uL u (m + k) l = uL u k (l + m)
  | 0, l, _ => by rw [Nat.zero_add, Nat.add_zero]
  | m + 1, l, h => by
    rw [show m + 1 + k = (m + k) + 1 by omega, uL_f (h l (Nat.le_refl _) (by omega)), uL_skip m (l + 1) (fun i h1 h2 => h i (by omega) (by omega))]
    congr 1
    omega
/-- the lowest of them ahead -/
theorem uL_cons {u : Nat → Bool} {n m : Nat} (hm : m < n) (h0 : ∀ i, i < m → u i = false) (h1 : u m = true) : uL u n 0 = m :: uL (va_up u m false) n 0 := by
  have e : n = m + ((n - m - 1) + 1) := by omega
  have a1 : uL u n 0 = uL u ((n - m - 1) + 1) m := by
    conv => lhs; rw [e]
    rw [uL_skip m 0 (fun i _ hi => h0 i (by omega)), Nat.zero_add]
  have a2 : uL (va_up u m false) n 0 = uL (va_up u m false) ((n - m - 1) + 1) m := by
    conv => lhs; rw [e]
    rw [uL_skip m 0 (fun i _ hi => by rw [vu_at, if_neg (by omega)]; exact h0 i (by omega)), Nat.zero_add]
  rw [a1, a2, uL_t h1, uL_f (by rw [vu_at, if_pos rfl])]
  congr 1
  exact uL_congr _ _ (fun i h2 h3 => by rw [vu_at, if_neg (by omega)])
theorem uL_none {u : Nat → Bool} {n : Nat} (h0 : ∀ i, i < n → u i = false) : uL u n 0 = [] := by
  have := uL_skip (u := u) (k := 0) n 0 (fun i _ hi => h0 i (by omega))
  rw [Nat.add_zero] at this
  rw [this]
  rfl
section
variable {n : Nat} {K : Nat → Nat} {W : Nat → Nat → Nat}
/-- one die more that isn't looked at -/
theorem al_ins {u : Nat → Bool} {d : Nat} {G : FV} (hd : u d = false) : ∀ k l, l ≤ d → d < l + k → ∀ φ, al K W (uL (va_up u d true) k l) G φ = av K W d (al K W (uL u k l) G) φ
  | 0, l, h1, h2, _ => by omega
  | k + 1, l, h1, h2, φ => by
    by_cases e : l = d
    · subst e
      rw [uL_t (by rw [vu_at, if_pos rfl]), uL_f hd, al]
      congr 2
      exact uL_congr _ _ (fun i h3 h4 => by rw [vu_at, if_neg (by omega)])
    · have ih := fun φ => al_ins (u := u) (d := d) (G := G) hd k (l + 1) (by omega) (by omega) φ
      have ev : va_up u d true l = u l := by rw [vu_at, if_neg e]
      cases hu : u l
      · rw [uL_f (by rw [ev, hu]), uL_f hu]
        exact ih φ
      · rw [uL_t (by rw [ev, hu]), uL_t hu]
        rw [show al K W (l :: uL (va_up u d true) k (l + 1)) G φ = av K W l (al K W (uL (va_up u d true) k (l + 1)) G) φ from rfl]
        rw [show al K W (uL (va_up u d true) k (l + 1)) G = av K W d (al K W (uL u k (l + 1)) G) from funext ih, av_comm K W e]
        rfl
theorem al_agree {g g' : FV} : ∀ (ds : List Nat) (φ : Nat → Nat), (∀ ψ, (∀ i, i ∉ ds → ψ i = φ i) → g ψ = g' ψ) → al K W ds g φ = al K W ds g' φ
  | [], φ, h => h φ (fun _ _ => rfl)
  | d :: ds, φ, h => by
    rw [al, al]
    refine sm_congr (fun f _ => ?_)
    rw [al_agree ds (va_up φ d f) (fun ψ hψ => h ψ (fun i hi => by
      rw [List.mem_cons, not_or] at hi
      rw [hψ i hi.2, vu_at, if_neg hi.1]))]
/-- a die thrown twice -/
theorem av_av (d : Nat) (G : FV) (φ : Nat → Nat) : av K W d (av K W d G) φ = sm (K d) (W d) * av K W d G φ := by
  simp only [av, vu_vu]
  exact sm_mulR _ _ _
theorem al_const (h12 : ∀ l, l < n → sm (K l) (W l) = 12) (c : Nat) : ∀ (ds : List Nat), (∀ d ∈ ds, d < n) → ∀ φ, al K W ds (fun _ => c) φ = 12 ^ ds.length * c := by
  intro ds
  induction ds with
  | nil => intro _ φ; simp [al]
  | cons d ds ih =>
    intro h φ
    simp only [al]
    rw [show al K W ds (fun _ => c) = (fun _ => 12 ^ ds.length * c) from funext (ih (fun e he => h e (List.mem_cons_of_mem _ he)))]
    simp only [av]
    rw [sm_mulR, h12 d (h d List.mem_cons_self), List.length_cons, Nat.pow_succ]
    rw [Nat.mul_comm (12 ^ ds.length) 12, Nat.mul_assoc]
/-- 12 for each die of the first l that wasn't looked at -/
def pU (u : Nat → Bool) : Nat → Nat
  | 0 => 1
  | l + 1 => pU u l * (if u l = true then 12 else 1)
theorem pU_len {u : Nat → Bool} : ∀ k l, pU u l * 12 ^ (uL u k l).length = pU u (l + k)
  | 0, l => by simp [uL]
  | k + 1, l => by
    have ih := pU_len (u := u) k (l + 1)
    rw [show l + (k + 1) = l + 1 + k by omega, ← ih, pU]
    cases h : u l
    · rw [uL_f h]; simp
    · rw [uL_t h, List.length_cons, Nat.pow_succ]
      simp only [if_true]
      rw [Nat.mul_comm (12 ^ _) 12, Nat.mul_assoc]
theorem pU_le {u : Nat → Bool} : ∀ l, pU u l ≤ 12 ^ l
  | 0 => Nat.le_refl _
  | l + 1 => by
    have ih := pU_le (u := u) l
    rw [pU, Nat.pow_succ]
    split
    · exact Nat.mul_le_mul_right _ ih
    · omega
end
theorem lowN_is {am : Nat → Option Nat} {dn : Nat → Bool} {n m : Nat} (hm : m < n) (h1 : am m ≠ none) (h2 : dn m = false) : ∀ r, r ≤ n → n - r ≤ m → (∀ i, n - r ≤ i → i < m → am i = none ∨ dn i = true) → lowN am dn n r = some m
  | 0, _, h3, _ => by omega
  | r + 1, hr, h3, h4 => by
    rw [lowN]
    by_cases e : n - (r + 1) = m
    · rw [e, if_neg]
      rintro (q | q)
      · exact h1 q
      · rw [h2] at q; cases q
    · rw [if_pos (h4 _ (Nat.le_refl _) (by omega))]
      exact lowN_is hm h1 h2 r (by omega) (by omega) (fun i h5 h6 => h4 i (by omega) h6)
theorem lowN_no {am : Nat → Option Nat} {dn : Nat → Bool} {n : Nat} : ∀ r, r ≤ n → (∀ i, n - r ≤ i → i < n → am i = none ∨ dn i = true) → lowN am dn n r = none
  | 0, _, _ => rfl
  | r + 1, hr, h4 => by
    rw [lowN, if_pos (h4 _ (Nat.le_refl _) (by omega))]
    exact lowN_no r (by omega) (fun i h5 h6 => h4 i (by omega) h6)
theorem dfs_some {n : Nat} {K : Nat → Nat} {W : Nat → Nat → Nat} {A : Nat → Nat → Option Nat} {r l d : Nat} {δ : Nat → Bool} {v : (Nat → Nat) → Nat → Nat} {φ : Nat → Nat} (h1 : lw n A δ φ = some l) (h2 : A l (φ l) = some d) : dfs n K W A (r + 1) δ v φ = av K W d (dfs n K W A r (dn2 δ l d) v) φ := by
  rw [dfs, h1]
  simp only [h2]
theorem dfs_none {n : Nat} {K : Nat → Nat} {W : Nat → Nat → Nat} {A : Nat → Nat → Option Nat} {r : Nat} {δ : Nat → Bool} {v : (Nat → Nat) → Nat → Nat} {φ : Nat → Nat} (h1 : lw n A δ φ = none) : dfs n K W A (r + 1) δ v φ = 12 ^ (r + 1) * v φ (2 - r) := by
  rw [dfs, h1]
section
variable {n : Nat} {K : Nat → Nat} {W : Nat → Nat → Nat} {A : Nat → Nat → Option Nat}
/-- all looked at: none is thrown again -/
theorem lk_none {r : Nat} {δ : Nat → Bool} {u : Nat → Bool} {v : (Nat → Nat) → Nat → Nat} {φ : Nat → Nat} (h0 : ∀ i, i < n → u i = false) (hq : ∀ i, i < n → u i = false → A i (φ i) = none ∨ δ i = true) : al K W (uL u n 0) (dfs n K W A (r + 1) δ v) φ = 12 ^ (r + 1) * v φ (2 - r) := by
  rw [uL_none h0, al]
  exact dfs_none (lowN_no n (Nat.le_refl _) (fun i _ hi => hq i hi (h0 i hi)))
/-- the lowest die lies as x and has die d thrown again -/
theorem lk_some {r m d : Nat} {δ : Nat → Bool} {u : Nat → Bool} {v : (Nat → Nat) → Nat → Nat} {φ : Nat → Nat} (hm : m < n) (hd : d < n) (h12 : ∀ l, l < n → sm (K l) (W l) = 12) (h0 : ∀ i, i ≤ m → u i = false) (hA : A m (φ m) = some d) (hδ : δ m = false) (hq : ∀ i, i < m → A i (φ i) = none ∨ δ i = true) : al K W (uL u n 0) (dfs n K W A (r + 1) δ v) φ = (if u d = true then 12 else 1) * al K W (uL (va_up u d true) n 0) (dfs n K W A r (dn2 δ m d) v) φ := by
  have e1 : al K W (uL u n 0) (dfs n K W A (r + 1) δ v) φ = al K W (uL u n 0) (av K W d (dfs n K W A r (dn2 δ m d) v)) φ := by
    refine al_agree _ φ (fun ψ hψ => ?_)
    have hψ2 : ∀ i, i ≤ m → ψ i = φ i := fun i hi => hψ i (fun q => by
      have := ((uL_mem n 0).mp q).2
      rw [h0 i hi] at this
      cases this)
    have hA2 : A m (ψ m) = some d := by rw [hψ2 m (Nat.le_refl _)]; exact hA
    refine dfs_some (lowN_is hm (by rw [hA2]; exact fun q => by cases q) hδ n (Nat.le_refl _) (by omega) (fun i _ hi => ?_)) hA2
    rw [hψ2 i (by omega)]
    exact hq i hi
  rw [e1]
  cases hu : u d
  · simp only [Bool.false_eq_true, if_false, Nat.one_mul]
    rw [al_av K W _ _ (fun q => by
      have := ((uL_mem n 0).mp q).2
      rw [hu] at this
      cases this), ← al_ins hu n 0 (Nat.zero_le _) (by omega)]
  · simp only [if_true]
    have e2 : va_up u d true = u := by
      funext i
      rw [vu_at]
      split
      · rename_i q; rw [q, hu]
      · rfl
    rw [e2, ← al_mulL]
    refine al_eq K W (d := d) (fun χ => ?_) _ ((uL_mem n 0).mpr ⟨⟨Nat.zero_le _, by omega⟩, hu⟩) φ
    rw [av_av, h12 d hd, ← av_mulL]
end
/-- the lot's sign of a type's -/
def lsg (fi : Bool) (a : Option Nat) : Option Nat := if fi = true then a else match a with
  | none => none
  | some _ => some 0
theorem lsg_lt {fi : Bool} {a : Option Nat} {n : Nat} (h0 : 0 < n) (h : ∀ j, a = some j → j < n) : ∀ j, lsg fi a = some j → j < n := by
  intro j hj
  cases fi with
  | true => exact h j hj
  | false =>
    cases a with
    | none => cases hj
    | some x => cases hj; exact h0
def resp (n : Nat) (g : FV) : Prop := ∀ ψ ψ', (∀ j, j < n → ψ j = ψ' j) → g ψ = g ψ'
theorem resp_up {n d x : Nat} {ψ ψ' : Nat → Nat} (h : ∀ j, j < n → ψ j = ψ' j) : ∀ j, j < n → va_up ψ d x j = va_up ψ' d x j := by
  intro j hj
  simp only [vu_at, h j hj]
theorem resp_av {n d : Nat} {K : Nat → Nat} {W : Nat → Nat → Nat} {g : FV} (h : resp n g) : resp n (av K W d g) := fun ψ ψ' e => sm_congr (fun f _ => by rw [h _ _ (resp_up e)])
theorem resp_lw {n : Nat} {A : Nat → Nat → Option Nat} {δ : Nat → Bool} {ψ ψ' : Nat → Nat} (e : ∀ j, j < n → ψ j = ψ' j) : lw n A δ ψ = lw n A δ ψ' := lowN_congr (fun l hl => by rw [e l hl]) (fun _ _ => rfl) n (Nat.le_refl _)
theorem resp_adj {n : Nat} {K : Nat → Nat} {W : Nat → Nat → Nat} {A : Nat → Nat → Option Nat} {g : Nat} : ∀ (r : Nat) (δ : Nat → Bool) (u : FV), resp n u → resp n (fun ψ => adj n K W A r δ u ψ g) := by
  intro r
  induction r with
  | zero =>
    intro δ u h ψ ψ' e
    simp only [adj, h ψ ψ' e]
  | succ r ih =>
    intro δ u h ψ ψ' e
    simp only [adj, resp_lw e, h ψ ψ' e]
    congr 1
    refine sm_congr (fun l hl => sm_congr (fun d hd => ih _ _ (resp_av (fun χ χ' q => ?_)) ψ ψ' e))
    rw [resp_lw q, q l hl, h χ χ' q]
theorem al_ext {n : Nat} {K : Nat → Nat} {W : Nat → Nat → Nat} {g : FV} (h : resp n g) : ∀ (ds : List Nat) (φ φ' : Nat → Nat), (∀ j, j < n → j ∉ ds → φ j = φ' j) → al K W ds g φ = al K W ds g φ' := by
  intro ds
  induction ds with
  | nil => exact fun φ φ' e => h φ φ' (fun j hj => e j hj (by simp))
  | cons d ds ih =>
    intro φ φ' e
    simp only [al]
    refine sm_congr (fun f _ => ?_)
    rw [ih _ (va_up φ' d f) (fun j hj hd => ?_)]
    simp only [vu_at]
    by_cases q : j = d
    · rw [if_pos q, if_pos q]
    · rw [if_neg q, if_neg q]
      exact e j hj (by rw [List.mem_cons, not_or]; exact ⟨q, hd⟩)
theorem al_good {n : Nat} {K : Nat → Nat} {W : Nat → Nat → Nat} {g g' : FV} (h : ∀ ψ, gdF n K W [] ψ → g ψ = g' ψ) : ∀ (ds : List Nat), ∀ φ, gdF n K W ds φ → al K W ds g φ = al K W ds g' φ := by
  intro ds
  induction ds with
  | nil => exact fun φ hφ => h φ hφ
  | cons d ds ih =>
    intro φ hφ
    simp only [al, av]
    refine sm_congr (fun f hf => ?_)
    by_cases q : W d f = 0
    · rw [q, Nat.zero_mul, Nat.zero_mul]
    · rw [ih _ (gdF_up hφ hf q)]
theorem gd_all {n : Nat} {K : Nat → Nat} {W : Nat → Nat → Nat} {φ : Nat → Nat} : gdF n K W (List.range' 0 n) φ := fun l hl hd => absurd (List.mem_range'_1.mpr ⟨Nat.zero_le _, by omega⟩) hd
theorem mem_r {n d : Nat} (h : d < n) : d ∈ List.range' 0 n := List.mem_range'_1.mpr ⟨Nat.zero_le _, by omega⟩
theorem r_mem {n d : Nat} (h : d ∈ List.range' 0 n) : d < n := by have := (List.mem_range'_1.mp h).2; omega
theorem ix_inj {ct φ ψ : Nat → Nat} : ∀ m, (∀ l, l < m → φ l < ct l) → (∀ l, l < m → ψ l < ct l) → ixF ct m φ = ixF ct m ψ → ∀ l, l < m → φ l = ψ l
  | 0, _, _, _ => fun l hl => absurd hl (Nat.not_lt_zero _)
  | m + 1, h1, h2, he => by
    have a1 := ix_lt (ct := ct) (φ := φ) m (fun l hl => h1 l (by omega))
    have a2 := ix_lt (ct := ct) (φ := ψ) m (fun l hl => h2 l (by omega))
    have he : ixF ct m φ + φ m * pst ct m = ixF ct m ψ + ψ m * pst ct m := he
    have e1 : φ m = ψ m := by
      rcases Nat.lt_trichotomy (φ m) (ψ m) with q | q | q
      · have := Nat.mul_le_mul_right (pst ct m) (Nat.succ_le_of_lt q)
        rw [Nat.succ_mul] at this
        omega
      · exact q
      · have := Nat.mul_le_mul_right (pst ct m) (Nat.succ_le_of_lt q)
        rw [Nat.succ_mul] at this
        omega
    have e2 : ixF ct m φ = ixF ct m ψ := by rw [e1] at he; omega
    intro l hl
    by_cases q : l = m
    · rw [q]; exact e1
    · exact ix_inj m (fun l hl => h1 l (by omega)) (fun l hl => h2 l (by omega)) e2 l (by omega)
