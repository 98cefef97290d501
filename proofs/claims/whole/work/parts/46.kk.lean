/-! What a tally comes to by lots, by kinds. -/
def pdN (W : Nat → Nat → Nat) (φ : Nat → Nat) : Nat → Nat
  | 0 => 1
  | l + 1 => pdN W φ l * W l (φ l)
theorem pdN_congr {W : Nat → Nat → Nat} {φ ψ : Nat → Nat} : ∀ l, (∀ i, i < l → φ i = ψ i) → pdN W φ l = pdN W ψ l
  | 0, _ => rfl
  | l + 1, h => by rw [pdN, pdN, pdN_congr l (fun i hi => h i (by omega)), h l (by omega)]
theorem pdN_up {W : Nat → Nat → Nat} {φ : Nat → Nat} {l x : Nat} : pdN W (va_up φ l x) (l + 1) = pdN W φ l * W l x := by
  rw [pdN, pdN_congr (ψ := φ) l (fun i hi => by rw [vu_at, if_neg (by omega)]), vu_at, if_pos rfl]
theorem pw_pdN {W : Nat → Nat → Nat} {φ : Nat → Nat} : ∀ r l, pdN W φ l * pw W (List.range' l r) φ = pdN W φ (l + r)
  | 0, l => by simp [pw]
  | r + 1, l => by
    rw [range'_s, pw, ← Nat.mul_assoc]
    have := pw_pdN (W := W) (φ := φ) r (l + 1)
    rw [pdN] at this
    rw [this]
    congr 1
    omega
theorem pdN_pos {W : Nat → Nat → Nat} {φ : Nat → Nat} : ∀ l, (∀ i, i < l → 0 < W i (φ i)) → 0 < pdN W φ l
  | 0, _ => Nat.one_pos
  | l + 1, h => Nat.mul_pos (pdN_pos l (fun i hi => h i (by omega))) (h l (by omega))
theorem pdN_le {W : Nat → Nat → Nat} {φ : Nat → Nat} : ∀ l, (∀ i, i < l → W i (φ i) ≤ 12) → pdN W φ l ≤ 12 ^ l
  | 0, _ => Nat.le_refl 1
  | l + 1, h => by
    rw [pdN, Nat.pow_succ]
    exact Nat.mul_le_mul (pdN_le l (fun i hi => h i (by omega))) (h l (by omega))

section
variable {n : Nat} {K : Nat → Nat} {W : Nat → Nat → Nat} {A : Nat → Nat → Option Nat}
/-- the weight of faces φ, as far as it isn't their own -/
def KF (n : Nat) (K : Nat → Nat) (W : Nat → Nat → Nat) (A : Nat → Nat → Option Nat) (φ : Nat → Nat) : Nat := sm 4 (fun g => adj n K W A 3 (fun _ => false) (fun _ => 1) φ g)
theorem tally_KF (hA : ∀ l f d, l < n → A l f = some d → d < n) (f : FV) (φ0 : Nat → Nat) : al K W (List.range' 0 n) (dfs n K W A 3 (fun _ => false) (fun φ _ => f φ)) φ0 = al K W (List.range' 0 n) (fun φ => KF n K W A φ * f φ) φ0 := by
  have h1 := adj_ok n K W A hA (List.range' 0 n) (fun d hd => mem_r hd) (fun φ _ => f φ) 3 (by omega) (fun _ => false) (fun _ => 1) φ0
  simp only [Nat.one_mul] at h1
  rw [show al K W (List.range' 0 n) (dfs n K W A 3 (fun _ => false) (fun φ _ => f φ)) φ0 = al K W (List.range' 0 n) (fun ψ => dfs n K W A 3 (fun _ => false) (fun φ _ => f φ) ψ) φ0 from rfl, h1, ← al_sm]
  congr 1
  funext φ
  exact sm_mulR 4 _ _
/-- what rests on aims alone -/
def rsA (n : Nat) (A : Nat → Nat → Option Nat) (g : FV) : Prop := ∀ ψ ψ', (∀ l, l < n → A l (ψ l) = A l (ψ' l)) → g ψ = g ψ'
theorem rsA_av {d : Nat} {V : Nat → Nat → Nat} {g : FV} (h : rsA n A g) : rsA n A (av K V d g) := fun ψ ψ' e => sm_congr (fun f _ => by
  rw [h _ _ (fun l hl => ?_)]
  simp only [vu_at]
  by_cases q : l = d
  · rw [if_pos q, if_pos q]
  · rw [if_neg q, if_neg q]
    exact e l hl)
theorem rsA_al {V : Nat → Nat → Nat} {g : FV} (h : rsA n A g) : ∀ ds, rsA n A (al K V ds g)
  | [] => h
  | d :: ds => rsA_av (rsA_al h ds)
theorem rsA_lw {δ : Nat → Bool} {ψ ψ' : Nat → Nat} (e : ∀ l, l < n → A l (ψ l) = A l (ψ' l)) : lw n A δ ψ = lw n A δ ψ' := lowN_congr e (fun _ _ => rfl) n (Nat.le_refl _)
theorem rsA_adj {g : Nat} : ∀ (r : Nat) (δ : Nat → Bool) (u : FV), rsA n A u → rsA n A (fun ψ => adj n K W A r δ u ψ g) := by
  intro r
  induction r with
  | zero =>
    intro δ u h ψ ψ' e
    simp only [adj, h ψ ψ' e]
  | succ r ih =>
    intro δ u h ψ ψ' e
    simp only [adj, rsA_lw e, h ψ ψ' e]
    congr 1
    refine sm_congr (fun l hl => sm_congr (fun d hd => ih _ _ (rsA_av (fun χ χ' q => ?_)) ψ ψ' e))
    rw [rsA_lw q, q l hl, h χ χ' q]
theorem KF_rsA : rsA n A (KF n K W A) := fun ψ ψ' e => sm_congr (fun g _ => rsA_adj (g := g) 3 _ (fun _ => 1) (fun _ _ _ => rfl) ψ ψ' e)
theorem al_scale {V V3 wX : Nat → Nat → Nat} {κ : Nat → Nat} {g : FV} (hg : rsA n A g) : ∀ ds, (∀ d ∈ ds, ∀ H, rsA n A H → ∀ φ, av K V d H φ = wX d (κ d) * av K V3 d H φ) → ∀ φ, al K V ds g φ = pw wX ds κ * al K V3 ds g φ
  | [], _, φ => by simp [al, pw]
  | d :: ds, h, φ => by
    have ih := al_scale (V := V) (V3 := V3) (wX := wX) (κ := κ) hg ds (fun e he => h e (List.mem_cons_of_mem _ he))
    rw [al, show al K V ds g = (fun ψ => pw wX ds κ * al K V3 ds g ψ) from funext ih, av_mulL, h d List.mem_cons_self _ (rsA_al hg ds), pw, ← Nat.mul_assoc, Nat.mul_comm (pw wX ds κ)]
    rfl
/-- lies so: 1 -/
def sel (t : Nat → Nat → Nat) (κ : Nat → Nat) (l f : Nat) : Nat := if t l f = κ l then 1 else 0
def wSel (W : Nat → Nat → Nat) (t : Nat → Nat → Nat) (κ : Nat → Nat) (l f : Nat) : Nat := if t l f = κ l then W l f else 0
theorem al_fixc {V : Nat → Nat → Nat} {g : FV} {d : Nat} (c : Nat → Nat) : ∀ ds, d ∉ ds → ∀ φ, al K V ds (fun ψ => g ψ * c (ψ d)) φ = al K V ds g φ * c (φ d)
  | [], _, φ => rfl
  | e :: ds, hd, φ => by
    rw [List.mem_cons, not_or] at hd
    simp only [al, av]
    rw [← sm_mulR]
    refine sm_congr (fun f hf => ?_)
    rw [al_fixc c ds hd.2, vu_at, if_neg hd.1, Nat.mul_assoc]
theorem al_sel {t : Nat → Nat → Nat} {κ : Nat → Nat} : ∀ ds, ds.Nodup → ∀ (g : FV) φ, al K W ds (fun ψ => g ψ * pw (sel t κ) ds ψ) φ = al K (wSel W t κ) ds g φ
  | [], _, g, φ => by simp [al, pw]
  | d :: ds, hn, g, φ => by
    rw [List.nodup_cons] at hn
    simp only [al, av]
    refine sm_congr (fun f hf => ?_)
    have e1 := al_sel (t := t) (κ := κ) ds hn.2 (fun ψ => g ψ * sel t κ d (ψ d)) (va_up φ d f)
    have e2 := al_fixc (K := K) (V := wSel W t κ) (g := g) (sel t κ d) ds hn.1 (va_up φ d f)
    rw [e2] at e1
    rw [show (fun ψ => g ψ * pw (sel t κ) (d :: ds) ψ) = (fun ψ => g ψ * sel t κ d (ψ d) * pw (sel t κ) ds ψ) from funext (fun ψ => by rw [pw, Nat.mul_assoc]), e1, vu_at, if_pos rfl, sel, wSel]
    by_cases q : t d f = κ d
    · rw [if_pos q, if_pos q, Nat.mul_one]
    · rw [if_neg q, if_neg q, Nat.mul_zero, Nat.mul_zero, Nat.zero_mul]
theorem pdN_sel1 {t : Nat → Nat → Nat} {κ φ : Nat → Nat} : ∀ l, (∀ i, i < l → t i (φ i) = κ i) → pdN (sel t κ) φ l = 1
  | 0, _ => rfl
  | l + 1, h => by rw [pdN, pdN_sel1 l (fun i hi => h i (by omega)), sel, if_pos (h l (by omega))]
theorem pdN_sel0 {t : Nat → Nat → Nat} {κ φ : Nat → Nat} {i : Nat} : ∀ l, i < l → t i (φ i) ≠ κ i → pdN (sel t κ) φ l = 0
  | 0, h, _ => absurd h (Nat.not_lt_zero _)
  | l + 1, h, hn => by
    rw [pdN]
    by_cases q : i = l
    · subst q
      rw [sel, if_neg hn, Nat.mul_zero]
    · rw [pdN_sel0 l (by omega) hn, Nat.zero_mul]
theorem pdN_sel {t : Nat → Nat → Nat} {κ φ : Nat → Nat} (l : Nat) : (∀ i, i < l → t i (φ i) = κ i) ∨ pdN (sel t κ) φ l = 0 := by
  by_cases h : ∀ i, i < l → t i (φ i) = κ i
  · exact Or.inl h
  · refine Or.inr ?_
    simp only [Classical.not_forall] at h
    obtain ⟨i, hi, hn⟩ := h
    exact pdN_sel0 l hi hn
theorem pw_0 {V : Nat → Nat → Nat} {φ : Nat → Nat} (n : Nat) : pw V (List.range' 0 n) φ = pdN V φ n := by
  have p1 := pw_pdN (W := V) (φ := φ) n 0
  rwa [Nat.zero_add, show pdN V φ 0 = 1 from rfl, Nat.one_mul] at p1
/-- the weight of a kind's lies -/
def MM (n : Nat) (K : Nat → Nat) (W : Nat → Nat → Nat) (A : Nat → Nat → Option Nat) (t : Nat → Nat → Nat) (κ : Nat → Nat) : Nat := al K W (List.range' 0 n) (fun φ => KF n K W A φ * pdN (sel t κ) φ n) (fun _ => 0)
theorem MM_sel {t : Nat → Nat → Nat} {κ : Nat → Nat} : MM n K W A t κ = al K (wSel W t κ) (List.range' 0 n) (KF n K W A) (fun _ => 0) := by
  rw [MM, ← al_sel _ (List.nodup_range' 1)]
  congr 1
  funext φ
  rw [pw_0]
theorem av_same {V : Nat → Nat → Nat} {d f0 : Nat} {H : FV} (hV : ∀ f, f < K d → V d f ≠ 0 → A d f = A d f0) (hH : rsA n A H) (φ : Nat → Nat) : av K V d H φ = sm (K d) (V d) * H (va_up φ d f0) := by
  rw [av, ← sm_mulR]
  refine sm_congr (fun f hf => ?_)
  by_cases q : V d f = 0
  · rw [q, Nat.zero_mul, Nat.zero_mul]
  · rw [hH (va_up φ d f) (va_up φ d f0) (fun l hl => ?_)]
    simp only [vu_at]
    by_cases z : l = d
    · subst z
      rw [if_pos rfl, if_pos rfl]
      exact hV f hf q
    · rw [if_neg z, if_neg z]
theorem av_delta {d f0 : Nat} {V : Nat → Nat → Nat} {H : FV} (h0 : f0 < K d) (hV : ∀ f, V d f = if f = f0 then 1 else 0) (φ : Nat → Nat) : av K V d H φ = H (va_up φ d f0) := by
  rw [av, sm_one h0]
  · rw [hV, if_pos rfl, Nat.one_mul]
  · intro i hi hne
    rw [hV, if_neg hne, Nat.zero_mul]
theorem sm_eqp {f g : Nat → Nat} : ∀ n, (∀ i, i < n → f i ≤ g i) → sm n f ≤ sm n g ∧ (sm n f = sm n g → ∀ i, i < n → f i = g i)
  | 0, _ => ⟨Nat.le_refl _, fun _ i hi => absurd hi (Nat.not_lt_zero _)⟩
  | n + 1, h => by
    obtain ⟨a, b⟩ := sm_eqp n (fun i hi => h i (by omega))
    have h2 := h n (by omega)
    rw [sm, sm]
    refine ⟨by omega, fun e i hi => ?_⟩
    by_cases q : i = n
    · subst q; omega
    · exact b (by omega) i (by omega)
/-- what the class takes for the weight of a kind's lies: the lot's, divided where the kind isn't all of the lot -/
theorem MM_div {lo t : Nat → Nat → Nat} {q κ f0 : Nat → Nat} {w2 wq wX wY : Nat → Nat → Nat} (hX : ∀ l, l < n → wX l (κ l) = if w2 l (κ l) = wq l (q l) then 1 else w2 l (κ l)) (hY : ∀ l, l < n → wY l (κ l) = if w2 l (κ l) = wq l (q l) then 1 else wq l (q l)) (hf0 : ∀ l, l < n → f0 l < K l) (hin : ∀ l, l < n → ∀ f, f < K l → W l f ≠ 0 → t l f = κ l → lo l f = q l) (hs2 : ∀ l, l < n → sm (K l) (wSel W t κ l) = w2 l (κ l)) (hsq : ∀ l, l < n → sm (K l) (wSel W lo q l) = wq l (q l)) (hmix : ∀ l, l < n → w2 l (κ l) ≠ wq l (q l) → ∀ f, f < K l → W l f ≠ 0 → lo l f = q l → A l f = A l (f0 l)) : ∃ B, MM n K W A t κ = pdN wX κ n * B ∧ MM n K W A lo q = pdN wY κ n * B := by
  have hle : ∀ l, l < n → ∀ f, f < K l → wSel W t κ l f ≤ wSel W lo q l f := by
    intro l hl f hf
    unfold wSel
    by_cases z : t l f = κ l
    · by_cases z0 : W l f = 0
      · simp [z0]
      · rw [if_pos z, if_pos (hin l hl f hf z0 z)]
        exact Nat.le_refl _
    · rw [if_neg z]; exact Nat.zero_le _
  refine ⟨al K (fun l f => if w2 l (κ l) = wq l (q l) then wSel W t κ l f else if f = f0 l then 1 else 0) (List.range' 0 n) (KF n K W A) (fun _ => 0), ?_, ?_⟩
  · rw [MM_sel, ← pw_0]
    refine al_scale KF_rsA _ (fun d hd H hH φ => ?_) _
    have hd := r_mem hd
    rw [hX d hd]
    by_cases e : w2 d (κ d) = wq d (q d)
    · rw [if_pos e, Nat.one_mul]
      exact sm_congr (fun f hf => by dsimp only; rw [if_pos e])
    · rw [if_neg e, av_same (f0 := f0 d) (fun f hf hw => ?_) hH, hs2 d hd, av_delta (hf0 d hd) (fun f => if_neg e)]
      by_cases z : t d f = κ d
      · rw [wSel, if_pos z] at hw
        exact hmix d hd e f hf hw (hin d hd f hf hw z)
      · rw [wSel, if_neg z] at hw
        exact absurd rfl hw
  · rw [MM_sel, ← pw_0]
    refine al_scale KF_rsA _ (fun d hd H hH φ => ?_) _
    have hd := r_mem hd
    rw [hY d hd]
    by_cases e : w2 d (κ d) = wq d (q d)
    · rw [if_pos e, Nat.one_mul]
      refine sm_congr (fun f hf => ?_)
      dsimp only
      rw [if_pos e]
      congr 1
      refine ((sm_eqp (K d) (hle d hd)).2 ?_ f hf).symm
      rw [hs2 d hd, hsq d hd, e]
    · rw [if_neg e, av_same (f0 := f0 d) (fun f hf hw => ?_) hH, hsq d hd, av_delta (hf0 d hd) (fun f => if_neg e)]
      by_cases z : lo d f = q d
      · rw [wSel, if_pos z] at hw
        exact hmix d hd e f hf hw z
      · rw [wSel, if_neg z] at hw
        exact absurd rfl hw
/-- the ends of a toss, by lots -/
theorem ends_MM (hA : ∀ l f d, l < n → A l f = some d → d < n) {lo : Nat → Nat → Nat} {cq q : Nat → Nat} (hlo : ∀ l, l < n → ∀ f, f < K l → W l f ≠ 0 → lo l f < cq l) (hq : ∀ l, l < n → q l < cq l) (hi : ixF cq n q < 7776) : al K W (List.range' 0 n) (dfs n K W A 3 (fun _ => false) (fun φ g => valE cq n (ixF cq n q) (tF lo φ) g)) (fun _ => 0) = MM n K W A lo q := by
  rw [show (fun (φ : Nat → Nat) (g : Nat) => valE cq n (ixF cq n q) (tF lo φ) g) = (fun φ _ => valE cq n (ixF cq n q) (tF lo φ) 0) from funext (fun φ => funext (fun g => by rw [valE, valE, if_pos hi, if_pos hi])), tally_KF hA, MM]
  refine al_good (n := n) (fun φ hφ => ?_) _ _ gd_all
  have hg : ∀ l, l < n → tF lo φ l < cq l := fun l hl => by
    obtain ⟨z1, z2⟩ := hφ l hl (by simp)
    exact hlo l hl _ z1 z2
  congr 1
  rw [valE, if_pos hi]
  rcases pdN_sel (t := lo) (κ := q) (φ := φ) n with h | h
  · rw [pdN_sel1 n h, if_pos]
    exact sm_congr (fun l hl => by rw [show tF lo φ l = q l from h l hl])
  · rw [h, if_neg]
    intro e
    have e2 : ∀ l, l < n → lo l (φ l) = q l := ix_inj n hg hq e
    rw [pdN_sel1 n e2] at h
    cases h
def itN {σ : Type} (f : Nat → σ → σ) : Nat → σ → σ
  | 0, s => s
  | j + 1, s => f j (itN f j s)
/-- the walk: every lie of kinds in order -/
def foK (c2 : Nat → Nat) (lf : (Nat → Nat) → (Nat → Nat) → Nat → Nat) : Nat → Nat → (Nat → Nat) → (Nat → Nat) → Nat → Nat
  | 0, _, κ, s => lf κ s
  | r + 1, l, κ, s => itN (fun j s => foK c2 lf r (l + 1) (va_up κ l j) s) (c2 l) s

theorem foK_M {c2 : Nat → Nat} {val : Nat → FV} {lf : (Nat → Nat) → (Nat → Nat) → Nat → Nat} {t : Nat → Nat → Nat} {c : Nat} (hlf : ∀ κ s, lf κ s c = s c + MM n K W A t κ * val c κ) (ht : ∀ l, l < n → ∀ f, f < K l → W l f ≠ 0 → t l f < c2 l) (hval : ∀ φ, gdF n K W [] φ → ∀ κ, (∀ l, l < n → t l (φ l) = κ l) → val c (tF t φ) = val c κ) : ∀ (r l : Nat), l + r = n → ∀ κ s, foK c2 lf r l κ s c = s c + al K W (List.range' 0 n) (fun φ => KF n K W A φ * val c (tF t φ) * pdN (sel t κ) φ l) (fun _ => 0) := by
  intro r
  induction r with
  | zero =>
    intro l hl κ s
    have hl : l = n := by omega
    subst hl
    rw [foK, hlf, MM, Nat.mul_comm, ← al_mulL]
    congr 1
    refine al_good (n := l) (fun φ hφ => ?_) _ _ gd_all
    rcases pdN_sel (t := t) (κ := κ) (φ := φ) l with h | h
    · rw [hval φ hφ κ h, ← Nat.mul_assoc, Nat.mul_comm (val c κ)]
    · rw [h, Nat.mul_zero, Nat.mul_zero, Nat.mul_zero]
  | succ r ih =>
    intro l hl κ s
    rw [foK]
    have key : ∀ m, itN (fun j s => foK c2 lf r (l + 1) (va_up κ l j) s) m s c = s c + al K W (List.range' 0 n) (fun φ => sm m (fun j => KF n K W A φ * val c (tF t φ) * pdN (sel t (va_up κ l j)) φ (l + 1))) (fun _ => 0) := by
      intro m
      induction m with
      | zero =>
        simp only [itN, sm]
        rw [al_0]
        rfl
      | succ m ihm =>
        rw [itN, ih (l + 1) (by omega), ihm, show (fun φ => sm (m + 1) (fun j => KF n K W A φ * val c (tF t φ) * pdN (sel t (va_up κ l j)) φ (l + 1))) = (fun φ => sm m (fun j => KF n K W A φ * val c (tF t φ) * pdN (sel t (va_up κ l j)) φ (l + 1)) + KF n K W A φ * val c (tF t φ) * pdN (sel t (va_up κ l m)) φ (l + 1)) from rfl, al_add, Nat.add_assoc]
    rw [key]
    congr 1
    refine al_good (n := n) (fun φ hφ => ?_) _ _ gd_all
    obtain ⟨z1, z2⟩ := hφ l (by omega) (by simp)
    have z3 := ht l (by omega) (φ l) z1 z2
    have e1 : ∀ j, pdN (sel t (va_up κ l j)) φ (l + 1) = pdN (sel t κ) φ l * if t l (φ l) = j then 1 else 0 := by
      intro j
      rw [pdN]
      congr 1
      · have : ∀ m, m ≤ l → pdN (sel t (va_up κ l j)) φ m = pdN (sel t κ) φ m := by
          intro m
          induction m with
          | zero => exact fun _ => rfl
          | succ m ihm =>
            intro hm
            rw [pdN, pdN, ihm (by omega)]
            congr 1
            rw [sel, sel, show va_up κ l j m = κ m from by rw [vu_at, if_neg (by omega)]]
        exact this l (Nat.le_refl _)
      · rw [sel, vu_at, if_pos rfl]
    simp only [e1]
    rw [sm_one z3]
    · rw [if_pos rfl, Nat.mul_one]
    · intro i hi hne
      rw [if_neg (fun q => hne q.symm), Nat.mul_zero, Nat.mul_zero]
end
section
variable {n : Nat}
/-- bounds -/
theorem al_le {K : Nat → Nat} {W : Nat → Nat → Nat} {g g' : FV} (h : ∀ ψ, g ψ ≤ g' ψ) : ∀ (ds : List Nat) φ, al K W ds g φ ≤ al K W ds g' φ := by
  intro ds
  induction ds with
  | nil => exact fun φ => h φ
  | cons d ds ih =>
    intro φ
    simp only [al, av]
    have : ∀ m, sm m (fun f => W d f * al K W ds g (va_up φ d f)) ≤ sm m (fun f => W d f * al K W ds g' (va_up φ d f)) := by
      intro m
      induction m with
      | zero => exact Nat.le_refl _
      | succ m ihm =>
        rw [sm, sm]
        exact Nat.add_le_add ihm (Nat.mul_le_mul_left _ (ih _))
    exact this _
theorem dfs_le {K : Nat → Nat} {W : Nat → Nat → Nat} {B : Nat → Nat → Option Nat} {v v' : (Nat → Nat) → Nat → Nat} (h : ∀ ψ g, v ψ g ≤ v' ψ g) : ∀ (r : Nat) (δ : Nat → Bool) φ, dfs n K W B r δ v φ ≤ dfs n K W B r δ v' φ := by
  intro r
  induction r with
  | zero => exact fun δ φ => h φ 3
  | succ r ih =>
    intro δ φ
    rw [dfs, dfs]
    cases lw n B δ φ with
    | none => exact Nat.mul_le_mul_left _ (h φ _)
    | some l =>
      dsimp only
      cases B l (φ l) with
      | none => exact Nat.le_refl _
      | some d =>
        dsimp only
        exact al_le (K := K) (W := W) (g := fun ψ => dfs n K W B r (dn2 δ l d) v ψ) (g' := fun ψ => dfs n K W B r (dn2 δ l d) v' ψ) (fun ψ => ih _ ψ) [d] φ
theorem dfs_1 {K : Nat → Nat} {W : Nat → Nat → Nat} {B : Nat → Nat → Option Nat} (hB : ∀ l f d, l < n → B l f = some d → d < n) (h12 : ∀ l, l < n → sm (K l) (W l) = 12) : ∀ (r : Nat) (δ : Nat → Bool) φ, dfs n K W B r δ (fun _ _ => 1) φ = 12 ^ r := by
  intro r
  induction r with
  | zero => exact fun _ _ => rfl
  | succ r ih =>
    intro δ φ
    rw [dfs]
    cases hl : lw n B δ φ with
    | none => exact Nat.mul_one _
    | some l =>
      obtain ⟨q1, q2, q3⟩ := lowN_in n hl (Nat.le_refl _)
      dsimp only
      cases hd : B l (φ l) with
      | none => exact absurd hd q2
      | some d =>
        dsimp only
        rw [show (fun ψ => dfs n K W B r (dn2 δ l d) (fun _ _ => 1) ψ) = (fun _ => 12 ^ r) from funext (fun ψ => ih _ ψ)]
        simp only [av]
        rw [sm_mulR, h12 d (hB l _ d q1 hd), Nat.pow_succ, Nat.mul_comm]
/-- a tally of what is at most once so -/
theorem tally_le {K : Nat → Nat} {W : Nat → Nat → Nat} {B : Nat → Nat → Option Nat} (hB : ∀ l f d, l < n → B l f = some d → d < n) (h12 : ∀ l, l < n → sm (K l) (W l) = 12) {v : (Nat → Nat) → Nat → Nat} (hv : ∀ ψ g, v ψ g ≤ 1) (φ : Nat → Nat) : al K W (List.range' 0 n) (dfs n K W B 3 (fun _ => false) v) φ ≤ 12 ^ (n + 3) := by
  have h1 := al_le (K := K) (W := W) (g := dfs n K W B 3 (fun _ => false) v) (g' := fun _ => 12 ^ 3) (fun ψ => by
    have := dfs_le (K := K) (W := W) (B := B) (n := n) hv 3 (fun _ => false) ψ
    rw [dfs_1 hB h12] at this
    exact this) (List.range' 0 n) φ
  rw [al_const h12 _ _ (fun d hd => r_mem hd), List.length_range', ← Nat.pow_add] at h1
  exact h1
end
