/-! A question: the class's and the model's. -/
theorem heldN_congr {sh sh' : Nat → Nat} {n : Nat} (h : ∀ l, l < n → sh l = sh' l) (hs : ∀ l, l < n → sh l < 50 + n) : ∀ r l, l < n → heldN sh r l = heldN sh' r l
  | 0, _, _ => rfl
  | r + 1, l, hl => by
    rw [heldN, heldN, ← h l hl]
    by_cases q : sh l < 50
    · rw [if_pos q, if_pos q]
    · rw [if_neg q, if_neg q]
      exact heldN_congr h hs r _ (by have := hs l hl; omega)
theorem cnt_iff {r r' : Nat → Int32} {c c' : Int32} : ∀ n, (∀ l, l < n → (r l = c ↔ r' l = c')) → cnt r 0 c n = cnt r' 0 c' n
  | 0, _ => rfl
  | n + 1, h => by
    rw [cnt, cnt, cnt_iff n (fun l hl => h l (by omega)), Nat.zero_add, if_cgr (h n (by omega))]
theorem cnt_z {r : Nat → Int32} {c : Int32} : ∀ n, cnt r 0 c n = 0 ↔ ∀ l, l < n → r l ≠ c
  | 0 => ⟨fun _ l hl => absurd hl (Nat.not_lt_zero _), fun _ => rfl⟩
  | n + 1 => by
    rw [cnt, Nat.zero_add]
    have ih := cnt_z (r := r) (c := c) n
    constructor
    · intro h l hl
      by_cases q : l = n
      · rw [q]
        intro z
        rw [if_pos z] at h
        omega
      · exact ih.mp (by omega) l (by omega)
    · intro h
      rw [if_neg (h n (by omega)), ih.mpr (fun l hl => h l (by omega))]
theorem frB_iff {hd : Nat → Nat} {n : Nat} : ∀ r, r ≤ n → (frB hd n r = true ↔ ∀ l, n - r ≤ l → l < n → ¬ (20 ≤ hd l ∧ hd l < 30))
  | 0, _ => ⟨fun _ l h1 h2 => by omega, fun _ => rfl⟩
  | r + 1, hr => by
    have ih := frB_iff (hd := hd) (n := n) r (by omega)
    rw [frB]
    by_cases q : 20 ≤ hd (n - (r + 1)) ∧ hd (n - (r + 1)) < 30
    · rw [if_pos q]
      exact ⟨(fun h => by cases h), fun h => absurd q (h _ (Nat.le_refl _) (by omega))⟩
    · rw [if_neg q, ih]
      constructor
      · intro h l h1 h2
        by_cases e : l = n - (r + 1)
        · rw [e]; exact q
        · exact h l (by omega) h2
      · exact fun h l h1 h2 => h l (by omega) h2
theorem mn_iff {s o t v x : Nat} (h4 : s ≠ 4) (h5 : s ≠ 5) (h6 : s ≠ 6) (hv : v < 40) (hx : 10 ≤ x) (hd : x % 10 = o ∨ x % 10 = t) (hb : brB s x = true) : mnN s o t v 0 = x ↔ v = x := by
  rw [mnN, if_neg h6, if_neg (by omega), if_neg h4, if_neg h5]
  constructor
  · intro h
    split at h
    · exact h
    · omega
  · intro h
    subst h
    rw [if_pos ⟨hx, hd, hb⟩]
theorem mn_lt {s o t v : Nat} (h6 : s ≠ 6) (hv : v < 40) (ht : s = 5 → t < 40) : mnN s o t v 0 < 40 := by
  unfold mnN
  repeat' split
  all_goals omega
theorem nI_iff {a b c d : Nat} (ha : a < 1000) (hb : b < 1000) (hc : c < 1000) (hd : d < 1000) (h : a = b ↔ c = d) : (nI a = nI b) ↔ (nI c = nI d) := by
  rw [nI_eq (by omega) (by omega), nI_eq (by omega) (by omega)]
  exact h
section
variable {n : Nat} {cl ys φ : Nat → Nat}
/-- what is asked of the class, of the model -/
def askQ (n s o t a : Nat) : Prop := (s = 0 ∧ a = 0 ∧ t = o ∧ o < 6) ∨ (s = 1 ∧ a = 1 ∧ t = o ∧ o < 6) ∨ (s = 2 ∧ a = 2 ∧ t = o ∧ o < 6) ∨ (s = 3 ∧ a = 3 ∧ o < 6 ∧ t < 6) ∨ (s = 4 ∧ a = 4 ∧ o = 0 ∧ t = 0) ∨ (s = 5 ∧ a = 5 ∧ o < n ∧ t < 40) ∨ (s = 7 ∧ a = 0 ∧ t = o ∧ o < 6)
theorem mX_at {s o t l : Nat} (h6 : φ l < 6) : mX cl n ys s o t (6 * l + φ l) = mnN s o t (setN (cl (6 * l + φ l)) n (ys l)) (φ l) := by
  rw [mX, show (6 * l + φ l) / 6 = l from by omega, show (6 * l + φ l) % 6 = φ l from by omega]
theorem held_mX {s o t : Nat} (n5 : n ≤ 5) (s6 : s ≠ 6) (ht : t < 40) (hc : ∀ j, j < 30 → cl j ≤ 60) (hy : ∀ l, l < n → ys l < 40) (hφ : ∀ l, l < n → φ l < 6) {l : Nat} (hl : l < n) : heldN (fun l => mX cl n ys s o t (6 * l + φ l)) (n + 1) l = mnN s o t (holdN (fun i => cl (6 * i + φ i)) n ys 6 l) 0 := by
  have hc' : ∀ l, l < n → cl (6 * l + φ l) ≤ 60 := fun l hl => hc _ (by have := hφ l hl; omega)
  have hset : ∀ l, l < n → setN (cl (6 * l + φ l)) n (ys l) < 50 + n := fun l hl => setN_50 (hc' l hl) (hy l hl) n5
  rw [← held_eq (c := fun i => cl (6 * i + φ i)) n5 hc' hy hl]
  rw [← held_mn (sh := fun l => setN (cl (6 * l + φ l)) n (ys l)) (o := o) (t := t) s6 φ hset (n + 1) l hl]
  refine heldN_congr (fun l hl => mX_at (hφ l hl)) (fun l hl => ?_) (n + 1) l hl
  rw [mX_at (hφ l hl)]
  have h1 := hset l hl
  unfold mnN
  repeat' split
  all_goals first | omega
theorem met_so {s o t a e g : Nat} (q : askQ n s o t a) (n5 : n ≤ 5) (hc : ∀ j, j < 30 → cl j ≤ 60) (hy : ∀ l, l < n → ys l < 40) (hφ : ∀ l, l < n → φ l < 6) : mtB n s o t (heldN (fun l => mX cl n ys s o t (6 * l + φ l)) (n + 1)) = soB cl n ys a o t e φ g := by
  have s6 : s ≠ 6 := by unfold askQ at q; omega
  have t40 : t < 40 := by unfold askQ at q; omega
  have hH : ∀ l, l < n → holdN (fun i => cl (6 * i + φ i)) n ys 6 l < 40 := fun l hl => holdN_lt hy 6 l hl
  have hm : ∀ l, l < n → heldN (fun l => mX cl n ys s o t (6 * l + φ l)) (n + 1) l = mnN s o t (holdN (fun i => cl (6 * i + φ i)) n ys 6 l) 0 := fun l hl => held_mX n5 s6 t40 hc hy hφ hl
  have hlt : ∀ l, l < n → mnN s o t (holdN (fun i => cl (6 * i + φ i)) n ys 6 l) 0 < 40 := fun l hl => mn_lt s6 (hH l hl) (fun _ => t40)
  have hcnt : ∀ x, s ≠ 4 → s ≠ 5 → 10 ≤ x → x < 40 → (x % 10 = o ∨ x % 10 = t) → brB s x = true → cnt (fun l => nI (heldN (fun l => mX cl n ys s o t (6 * l + φ l)) (n + 1) l)) 0 (nI x) n = cnt (hdF cl n ys φ) 0 (nI x) n := by
    intro x h4 h5 hx hx40 hd hb
    refine cnt_iff n (fun l hl => ?_)
    have h1 := hlt l hl
    have h2 := hH l hl
    rw [hm l hl]
    exact nI_iff (by omega) (by omega) (by omega) (by omega) (mn_iff h4 h5 s6 h2 hx hd hb)
  have b0 : ∀ x, x < 30 → brB 0 x = true := fun x hx => by simp [brB, hx]
  have b7 : ∀ x, x < 30 → brB 7 x = true := fun x hx => by simp [brB, hx]
  have b3 : ∀ x, x < 30 → brB 3 x = true := fun x hx => by simp [brB, hx]
  have b1 : ∀ x, brB 1 x = true := fun x => by simp [brB]
  have b2 : ∀ x, 20 ≤ x → x < 30 → brB 2 x = true := fun x h1 h2 => by simp [brB, h1, h2]
  rcases q with ⟨q1, q2, q3, q4⟩ | ⟨q1, q2, q3, q4⟩ | ⟨q1, q2, q3, q4⟩ | ⟨q1, q2, q3, q4⟩ | ⟨q1, q2, q3, q4⟩ | ⟨q1, q2, q3, q4⟩ | ⟨q1, q2, q3, q4⟩
  · subst q1 q2 q3
    rw [mtB, if_neg (by decide), if_neg (by decide), if_neg (by decide), if_neg (by decide), if_neg (by decide), soB, if_pos rfl]
    unfold lwB
    rw [hcnt _ (by decide) (by decide) (by omega) (by omega) (by omega) (b0 _ (by omega)), hcnt _ (by decide) (by decide) (by omega) (by omega) (by omega) (b0 _ (by omega))]
  · subst q1 q2 q3
    rw [mtB, if_pos rfl, soB, if_neg (by decide), if_pos rfl]
    unfold msB lwB
    rw [hcnt _ (by decide) (by decide) (by omega) (by omega) (by omega) (b1 _), hcnt _ (by decide) (by decide) (by omega) (by omega) (by omega) (b1 _), hcnt _ (by decide) (by decide) (by omega) (by omega) (by omega) (b1 _)]
  · subst q1 q2 q3
    rw [mtB, if_neg (by decide), if_pos rfl, soB, if_neg (by decide), if_neg (by decide), if_pos rfl]
    rw [hcnt _ (by decide) (by decide) (by omega) (by omega) (by omega) (b2 _ (by omega) (by omega))]
  · subst q1 q2
    rw [mtB, if_neg (by decide), if_neg (by decide), if_pos rfl, soB, if_neg (by decide), if_neg (by decide), if_neg (by decide), if_pos rfl]
    unfold lwB
    rw [hcnt (20 + o) (by decide) (by decide) (by omega) (by omega) (by omega) (b3 _ (by omega)), hcnt (10 + o) (by decide) (by decide) (by omega) (by omega) (by omega) (b3 _ (by omega)), hcnt (20 + t) (by decide) (by decide) (by omega) (by omega) (by omega) (b3 _ (by omega)), hcnt (10 + t) (by decide) (by decide) (by omega) (by omega) (by omega) (b3 _ (by omega))]
  · subst q1 q2 q3 q4
    rw [mtB, if_neg (by decide), if_neg (by decide), if_neg (by decide), if_pos rfl, soB, if_neg (by decide), if_neg (by decide), if_neg (by decide), if_neg (by decide), if_pos rfl]
    rw [Bool.eq_iff_iff, decide_eq_true_iff, cnt_z, frB_iff n (Nat.le_refl _)]
    have h20 : ∀ l, l < n → (nI (heldN (fun l => mX cl n ys 4 0 0 (6 * l + φ l)) (n + 1) l) ≠ nI 20 ↔ ¬ (20 ≤ holdN (fun i => cl (6 * i + φ i)) n ys 6 l ∧ holdN (fun i => cl (6 * i + φ i)) n ys 6 l < 30)) := by
      intro l hl
      have h1 := hlt l hl
      have h2 := hH l hl
      rw [hm l hl, ne_eq, nI_eq (by omega) (by omega), mnN, if_neg (by decide), if_neg (by omega), if_pos rfl]
      constructor
      · intro z y
        rw [if_pos y] at z
        exact z rfl
      · intro z y
        rw [if_neg z] at y
        omega
    constructor
    · exact fun h l _ hl => (h20 l hl).mp (h l hl)
    · exact fun h l hl => (h20 l hl).mpr (h l (by omega) hl)
  · subst q1 q2
    rw [mtB, if_neg (by decide), if_neg (by decide), if_neg (by decide), if_neg (by decide), if_pos rfl, soB, if_neg (by decide), if_neg (by decide), if_neg (by decide), if_neg (by decide), if_neg (by decide), if_pos rfl]
    apply decide_eq_decide.mpr
    have h2 := hH o q3
    rw [hm o q3, mnN, if_neg (by decide), if_neg (by omega), if_neg (by decide), if_pos rfl]
    constructor
    · intro z
      split at z
      · assumption
      · split at z
        · omega
        · omega
    · intro z
      rw [if_pos z]
  · subst q1 q2 q3
    rw [mtB, if_neg (by decide), if_neg (by decide), if_neg (by decide), if_neg (by decide), if_neg (by decide), soB, if_pos rfl]
    unfold lwB
    rw [hcnt _ (by decide) (by decide) (by omega) (by omega) (by omega) (b7 _ (by omega)), hcnt _ (by decide) (by decide) (by omega) (by omega) (by omega) (b7 _ (by omega))]
end
