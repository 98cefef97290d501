/-! The grammar of rules: what a text comes to, as a value of the letters. -/
abbrev VF : Type := (Nat → Int32) → Int32
abbrev PRs : Type := Nat × Nat × VF
abbrev CRs : Type := Nat × Nat × VF × VF
def pOk (p : Nat) (v : VF) : PRs := (0, p, v)
def pBad (q : Nat) : PRs := (1, q, fun _ => nI 0)
def pOut : PRs := (2, 0, fun _ => nI 0)
def bnd (r : PRs) (f : Nat → VF → PRs) : PRs := if r.1 = 0 then f r.2.1 r.2.2 else r
theorem bnd_0 {r : PRs} {f : Nat → VF → PRs} (h : r.1 = 0) : bnd r f = f r.2.1 r.2.2 := if_pos h
theorem bnd_n {r : PRs} {f : Nat → VF → PRs} (h : ¬ r.1 = 0) : bnd r f = r := if_neg h
def isd (c : Nat) : Bool := decide (48 ≤ c ∧ c ≤ 57)
def isC (c : Nat) : Bool := decide (c = 61 ∨ c = 60 ∨ c = 62)
def lix (c : Nat) : Nat := if c = 108 then 0 else if c = 100 then 1 else if c = 109 then 2 else if c = 110 then 3 else if c = 119 then 4 else if c = 116 then 5 else 6
def wiM (n : Int64) : Int64 := if n < lN 1000000 then n else lN 1000000
def wi (n : Int64) : Int32 := (if wiM n < -lN 1000000 then -lN 1000000 else wiM n).toInt32
def tr (x : Int32) : Bool := decide (x = nI 1)
theorem tr_bB (b : Bool) : tr (bB b) = b := by cases b <;> decide
def addV (v w : VF) : VF := fun lt => wi ((v lt).toInt64 + (w lt).toInt64)
def subV (v w : VF) : VF := fun lt => wi ((v lt).toInt64 - (w lt).toInt64)
def mulV (v w : VF) : VF := fun lt => wi ((v lt).toInt64 * (w lt).toInt64)
def divV (v w : VF) : VF := fun lt => wi (if (w lt).toInt64 = 0 then lN 0 else (v lt).toInt64 / (w lt).toInt64)
def cmpB (c : Nat) (x y : Int32) : Bool := if c = 61 then decide (x = y) else if c = 60 then decide (x < y) else decide (y < x)
def cmpV (c : Nat) (v w : VF) : VF := fun lt => bB (cmpB c (v lt) (w lt))
def notV (v : VF) : VF := fun lt => bB (!tr (v lt))
def andV (v w : VF) : VF := fun lt => bB (tr (v lt) && tr (w lt))
def orV (v w : VF) : VF := fun lt => bB (tr (v lt) || tr (w lt))
section
variable (tp : Nat → Nat) (L : Nat)
def skF : Nat → Nat → Nat
  | 0, p => p
  | n + 1, p => if p < L ∧ tp p = 32 then skF n (p + 1) else p
def sk (p : Nat) : Nat := skF tp L (L - p) p
def pk (p : Nat) : Nat := if sk tp L p < L then tp (sk tp L p) else 0
def nmF : Nat → Nat → Nat → Nat × Nat
  | 0, p, a => (p, a)
  | n + 1, p, a => if p < L ∧ isd (tp p) = true then nmF n (p + 1) (10 * a + (tp p - 48)) else (p, a)
def nmQ (q : Nat) : PRs := if (nmF tp L 4 q 0).1 < L ∧ isd (tp (nmF tp L 4 q 0).1) = true then pBad (nmF tp L 4 q 0).1 else pOk (nmF tp L 4 q 0).1 (fun _ => nI (nmF tp L 4 q 0).2)
def clo (c : Nat) (q : Nat) (w : VF) : PRs := if pk tp L q = c then pOk (sk tp L q + 1) w else pBad (sk tp L q)
def P : Nat → Nat → Nat → VF → Nat → PRs
  | 0, _, _, _, _ => pOut
  | n + 1, 0, d, v, p => if isd (pk tp L p) = true then nmQ tp L (sk tp L p) else if pk tp L p = 91 then (if 6 ≤ d then pBad (sk tp L p) else bnd (P n 3 (d + 1) v (sk tp L p + 1)) (clo tp L 93)) else if lix (pk tp L p) < 6 then pOk (sk tp L p + 1) (fun lt => lt (lix (pk tp L p))) else pBad (sk tp L p)
  | n + 1, 1, d, v, p => bnd (P n 0 d v p) (fun q w => P n 2 d w q)
  | n + 1, 2, d, v, p => if pk tp L p = 42 then bnd (P n 0 d v (sk tp L p + 1)) (fun q w => P n 2 d (mulV v w) q) else if pk tp L p = 47 then bnd (P n 0 d v (sk tp L p + 1)) (fun q w => P n 2 d (divV v w) q) else pOk (sk tp L p) v
  | n + 1, 3, d, v, p => bnd (P n 1 d v p) (fun q w => P n 4 d w q)
  | n + 1, 4, d, v, p => if pk tp L p = 43 then bnd (P n 1 d v (sk tp L p + 1)) (fun q w => P n 4 d (addV v w) q) else if pk tp L p = 45 then bnd (P n 1 d v (sk tp L p + 1)) (fun q w => P n 4 d (subV v w) q) else pOk (sk tp L p) v
  | n + 1, 5, d, v, p => if isC (pk tp L p) = true then bnd (P n 3 d v (sk tp L p + 1)) (fun q w => pOk q (cmpV (pk tp L p) v w)) else pBad (sk tp L p)
  | n + 1, 6, d, v, p => if pk tp L p = 33 then (if 6 ≤ d then pBad (sk tp L p) else bnd (P n 6 (d + 1) v (sk tp L p + 1)) (fun q w => pOk q (notV w))) else if pk tp L p = 40 then (if 6 ≤ d then pBad (sk tp L p) else bnd (P n 8 (d + 1) v (sk tp L p + 1)) (clo tp L 41)) else bnd (P n 3 d v (sk tp L p)) (fun q w => P n 5 d w q)
  | n + 1, 7, d, v, p => if pk tp L p = 38 then bnd (P n 6 d v (sk tp L p + 1)) (fun q w => P n 7 d (andV v w) q) else pOk (sk tp L p) v
  | n + 1, 8, d, v, p => bnd (P n 10 d v p) (fun q w => P n 9 d w q)
  | n + 1, 9, d, v, p => if pk tp L p = 124 then bnd (P n 10 d v (sk tp L p + 1)) (fun q w => P n 9 d (orV v w) q) else pOk (sk tp L p) v
  | n + 1, 10, d, v, p => bnd (P n 6 d v p) (fun q w => P n 7 d w q)
  | _ + 1, _ + 11, _, _, _ => pOut
theorem P_0 (n d : Nat) (v : VF) (p : Nat) : P tp L (n + 1) 0 d v p = if isd (pk tp L p) = true then nmQ tp L (sk tp L p) else if pk tp L p = 91 then (if 6 ≤ d then pBad (sk tp L p) else bnd (P tp L n 3 (d + 1) v (sk tp L p + 1)) (clo tp L 93)) else if lix (pk tp L p) < 6 then pOk (sk tp L p + 1) (fun lt => lt (lix (pk tp L p))) else pBad (sk tp L p) := rfl
theorem P_1 (n d : Nat) (v : VF) (p : Nat) : P tp L (n + 1) 1 d v p = bnd (P tp L n 0 d v p) (fun q w => P tp L n 2 d w q) := rfl
theorem P_2 (n d : Nat) (v : VF) (p : Nat) : P tp L (n + 1) 2 d v p = if pk tp L p = 42 then bnd (P tp L n 0 d v (sk tp L p + 1)) (fun q w => P tp L n 2 d (mulV v w) q) else if pk tp L p = 47 then bnd (P tp L n 0 d v (sk tp L p + 1)) (fun q w => P tp L n 2 d (divV v w) q) else pOk (sk tp L p) v := rfl
theorem P_3 (n d : Nat) (v : VF) (p : Nat) : P tp L (n + 1) 3 d v p = bnd (P tp L n 1 d v p) (fun q w => P tp L n 4 d w q) := rfl
theorem P_4 (n d : Nat) (v : VF) (p : Nat) : P tp L (n + 1) 4 d v p = if pk tp L p = 43 then bnd (P tp L n 1 d v (sk tp L p + 1)) (fun q w => P tp L n 4 d (addV v w) q) else if pk tp L p = 45 then bnd (P tp L n 1 d v (sk tp L p + 1)) (fun q w => P tp L n 4 d (subV v w) q) else pOk (sk tp L p) v := rfl
theorem P_5 (n d : Nat) (v : VF) (p : Nat) : P tp L (n + 1) 5 d v p = if isC (pk tp L p) = true then bnd (P tp L n 3 d v (sk tp L p + 1)) (fun q w => pOk q (cmpV (pk tp L p) v w)) else pBad (sk tp L p) := rfl
theorem P_6 (n d : Nat) (v : VF) (p : Nat) : P tp L (n + 1) 6 d v p = if pk tp L p = 33 then (if 6 ≤ d then pBad (sk tp L p) else bnd (P tp L n 6 (d + 1) v (sk tp L p + 1)) (fun q w => pOk q (notV w))) else if pk tp L p = 40 then (if 6 ≤ d then pBad (sk tp L p) else bnd (P tp L n 8 (d + 1) v (sk tp L p + 1)) (clo tp L 41)) else bnd (P tp L n 3 d v (sk tp L p)) (fun q w => P tp L n 5 d w q) := rfl
theorem P_7 (n d : Nat) (v : VF) (p : Nat) : P tp L (n + 1) 7 d v p = if pk tp L p = 38 then bnd (P tp L n 6 d v (sk tp L p + 1)) (fun q w => P tp L n 7 d (andV v w) q) else pOk (sk tp L p) v := rfl
theorem P_8 (n d : Nat) (v : VF) (p : Nat) : P tp L (n + 1) 8 d v p = bnd (P tp L n 10 d v p) (fun q w => P tp L n 9 d w q) := rfl
theorem P_9 (n d : Nat) (v : VF) (p : Nat) : P tp L (n + 1) 9 d v p = if pk tp L p = 124 then bnd (P tp L n 10 d v (sk tp L p + 1)) (fun q w => P tp L n 9 d (orV v w) q) else pOk (sk tp L p) v := rfl
theorem P_10 (n d : Nat) (v : VF) (p : Nat) : P tp L (n + 1) 10 d v p = bnd (P tp L n 6 d v p) (fun q w => P tp L n 7 d w q) := rfl
end
section
variable {tp : Nat → Nat} {L : Nat}
theorem skF_le : ∀ n p, p ≤ skF tp L n p
  | 0, p => Nat.le_refl _
  | n + 1, p => by
    rw [skF]
    split
    · have := skF_le n (p + 1)
      omega
    · exact Nat.le_refl _
theorem skF_L : ∀ n p, p ≤ L → skF tp L n p ≤ L
  | 0, p, h => h
  | n + 1, p, h => by
    rw [skF]
    split
    · exact skF_L n (p + 1) (by omega)
    · exact h
theorem sk_le (p : Nat) : p ≤ sk tp L p := skF_le _ p
theorem sk_L {p : Nat} (h : p ≤ L) : sk tp L p ≤ L := skF_L _ p h
theorem sk_s {p : Nat} (h : p < L) (e : tp p = 32) : sk tp L p = sk tp L (p + 1) := by
  unfold sk
  rw [show L - p = (L - (p + 1)) + 1 from by omega, skF, if_pos ⟨h, e⟩]
theorem sk_n {p : Nat} (e : ¬ (p < L ∧ tp p = 32)) : sk tp L p = p := by
  unfold sk
  cases L - p with
  | zero => rfl
  | succ m => rw [skF, if_neg e]
theorem skF_st : ∀ n p, L - p ≤ n → ¬ (skF tp L n p < L ∧ tp (skF tp L n p) = 32)
  | 0, p, h => by rw [skF]; omega
  | n + 1, p, h => by
    rw [skF]
    split
    · exact skF_st n (p + 1) (by omega)
    · assumption
theorem sk_st (p : Nat) : ¬ (sk tp L p < L ∧ tp (sk tp L p) = 32) := skF_st _ p (Nat.le_refl _)
theorem sk_sk (p : Nat) : sk tp L (sk tp L p) = sk tp L p := sk_n (sk_st p)
theorem pq_sk (p : Nat) : pk tp L (sk tp L p) = pk tp L p := by unfold pk; rw [sk_sk]
theorem pq_lt {p : Nat} (h : pk tp L p ≠ 0) : sk tp L p < L := by
  unfold pk at h
  split at h
  · assumption
  · exact absurd rfl h
theorem pq_tp {p : Nat} (h : sk tp L p < L) : pk tp L p = tp (sk tp L p) := if_pos h
theorem nmF_le : ∀ n p a, p ≤ (nmF tp L n p a).1
  | 0, p, a => Nat.le_refl _
  | n + 1, p, a => by
    rw [nmF]
    split
    · have := nmF_le n (p + 1) (10 * a + (tp p - 48))
      omega
    · exact Nat.le_refl _
theorem nmF_L : ∀ n p a, p ≤ L → (nmF tp L n p a).1 ≤ L
  | 0, p, a, h => h
  | n + 1, p, a, h => by
    rw [nmF]
    split
    · exact nmF_L n (p + 1) _ (by omega)
    · exact h
theorem nmF_v : ∀ n p a, (nmF tp L n p a).2 < (a + 1) * 10 ^ n
  | 0, p, a => by show a < (a + 1) * 1; omega
  | n + 1, p, a => by
    rw [nmF]
    split
    · rename_i q
      have h := nmF_v n (p + 1) (10 * a + (tp p - 48))
      have z : tp p - 48 ≤ 9 := by
        have := of_decide_eq_true q.2
        omega
      refine Nat.lt_of_lt_of_le h ?_
      rw [Nat.pow_succ, Nat.mul_comm (10 ^ n) 10, ← Nat.mul_assoc]
      exact Nat.mul_le_mul_right _ (by omega)
    · refine Nat.lt_of_lt_of_le (Nat.lt_succ_self a) ?_
      exact Nat.le_mul_of_pos_right _ (Nat.pow_pos (by decide))
theorem nmF_gt {n p a : Nat} (h : p < L) (e : isd (tp p) = true) : p < (nmF tp L (n + 1) p a).1 := by
  rw [nmF, if_pos ⟨h, e⟩]
  have := nmF_le (tp := tp) (L := L) n (p + 1) (10 * a + (tp p - 48))
  omega
/-- not out of breath; on from p, at most to the end -/
def Gd (L : Nat) (s : Bool) (p : Nat) (r : PRs) : Prop := r.1 ≠ 2 ∧ (r.1 = 0 → p ≤ r.2.1 ∧ (s = true → p < r.2.1) ∧ r.2.1 ≤ L)
theorem Gd.ok {s : Bool} {p q : Nat} {v : VF} (h1 : p ≤ q) (h2 : s = true → p < q) (h3 : q ≤ L) : Gd L s p (pOk q v) := ⟨by show (0 : Nat) ≠ 2; decide, fun _ => ⟨h1, h2, h3⟩⟩
theorem Gd.bad {s : Bool} {p q : Nat} : Gd L s p (pBad q) := ⟨by show (1 : Nat) ≠ 2; decide, fun h => absurd h (by show ¬ (1 : Nat) = 0; decide)⟩
theorem Gd.bnd {s s' : Bool} {p p' : Nat} {r : PRs} {f : Nat → VF → PRs} (h : Gd L s' p' r) (g : ∀ q w, p' ≤ q → (s' = true → p' < q) → q ≤ L → Gd L s p (f q w)) : Gd L s p (bnd r f) := by
  by_cases z : r.1 = 0
  · rw [bnd_0 z]
    obtain ⟨a, b, c⟩ := h.2 z
    exact g _ _ a b c
  · rw [bnd_n z]
    exact ⟨h.1, fun q => absurd q z⟩
theorem Gd.cl {s : Bool} {p c q : Nat} {w : VF} (hc : c ≠ 0) (h : p ≤ q) : Gd L s p (clo tp L c q w) := by
  unfold clo
  have := sk_le (tp := tp) (L := L) q
  split
  · rename_i e
    have := pq_lt (tp := tp) (L := L) (p := q) (by omega)
    exact Gd.ok (by omega) (fun _ => by omega) (by omega)
  · exact Gd.bad
def rk (k : Nat) : Nat := [0, 1, 0, 2, 0, 0, 3, 0, 5, 0, 4].getD k 0
def st (k : Nat) : Bool := [true, true, false, true, false, true, true, false, true, false, true].getD k false
theorem P_good : ∀ n k d v p, k < 11 → p ≤ L → 6 * (L - p) + rk k < n → Gd L (st k) p (P tp L n k d v p) := by
  intro n
  induction n with
  | zero => intro k d v p _ _ h; omega
  | succ n ih =>
    intro k d v p hk hp hm
    have s1 := sk_le (tp := tp) (L := L) p
    have s2 := sk_L (tp := tp) hp
    have s3 := pq_lt (tp := tp) (L := L) (p := p)
    match k, hk, hm with
    | 0, _, hm =>
      have hm : 6 * (L - p) + 0 < n + 1 := hm
      rw [P_0]
      split
      · rename_i e
        have e0 := of_decide_eq_true e
        have s3 := s3 (by omega)
        have e1 : isd (tp (sk tp L p)) = true := by rw [← pq_tp s3]; exact e
        have g1 : sk tp L p < (nmF tp L 4 (sk tp L p) 0).1 := nmF_gt (tp := tp) (n := 3) (a := 0) s3 e1
        have g2 := nmF_L (tp := tp) (L := L) 4 (sk tp L p) 0 s2
        unfold nmQ
        split
        · exact Gd.bad
        · exact Gd.ok (by omega) (fun _ => by omega) g2
      · split
        · have s3 := s3 (by omega)
          split
          · exact Gd.bad
          · refine Gd.bnd (ih 3 _ v _ (by decide) (by omega) (by show 6 * (L - (sk tp L p + 1)) + 2 < n; omega)) (fun q w a b c => Gd.cl (by decide) (by omega))
        · split
          · rename_i e
            have s3 := s3 (fun z => by rw [z] at e; exact absurd e (by decide))
            exact Gd.ok (by omega) (fun _ => by omega) (by omega)
          · exact Gd.bad
    | 1, _, hm =>
      have hm : 6 * (L - p) + 1 < n + 1 := hm
      rw [P_1]
      refine Gd.bnd (ih 0 d v p (by decide) hp (by show 6 * (L - p) + 0 < n; omega)) (fun q w a b c => ?_)
      have b := b rfl
      obtain ⟨g1, g2⟩ := ih 2 d w q (by decide) c (by show 6 * (L - q) + 0 < n; omega)
      exact ⟨g1, fun z => by obtain ⟨x, _, y⟩ := g2 z; exact ⟨by omega, fun _ => by omega, y⟩⟩
    | 2, _, hm =>
      have hm : 6 * (L - p) + 0 < n + 1 := hm
      rw [P_2]
      split
      · have s3 := s3 (by omega)
        refine Gd.bnd (ih 0 d v _ (by decide) (by omega) (by show 6 * (L - (sk tp L p + 1)) + 0 < n; omega)) (fun q w a b c => ?_)
        obtain ⟨g1, g2⟩ := ih 2 d (mulV v w) q (by decide) c (by show 6 * (L - q) + 0 < n; omega)
        exact ⟨g1, fun z => by obtain ⟨x, _, y⟩ := g2 z; exact ⟨by omega, fun _ => by omega, y⟩⟩
      · split
        · have s3 := s3 (by omega)
          refine Gd.bnd (ih 0 d v _ (by decide) (by omega) (by show 6 * (L - (sk tp L p + 1)) + 0 < n; omega)) (fun q w a b c => ?_)
          obtain ⟨g1, g2⟩ := ih 2 d (divV v w) q (by decide) c (by show 6 * (L - q) + 0 < n; omega)
          exact ⟨g1, fun z => by obtain ⟨x, _, y⟩ := g2 z; exact ⟨by omega, fun _ => by omega, y⟩⟩
        · exact Gd.ok s1 (fun z => absurd z (by decide)) s2
    | 3, _, hm =>
      have hm : 6 * (L - p) + 2 < n + 1 := hm
      rw [P_3]
      refine Gd.bnd (ih 1 d v p (by decide) hp (by show 6 * (L - p) + 1 < n; omega)) (fun q w a b c => ?_)
      have b := b rfl
      obtain ⟨g1, g2⟩ := ih 4 d w q (by decide) c (by show 6 * (L - q) + 0 < n; omega)
      exact ⟨g1, fun z => by obtain ⟨x, _, y⟩ := g2 z; exact ⟨by omega, fun _ => by omega, y⟩⟩
    | 4, _, hm =>
      have hm : 6 * (L - p) + 0 < n + 1 := hm
      rw [P_4]
      split
      · have s3 := s3 (by omega)
        refine Gd.bnd (ih 1 d v _ (by decide) (by omega) (by show 6 * (L - (sk tp L p + 1)) + 1 < n; omega)) (fun q w a b c => ?_)
        obtain ⟨g1, g2⟩ := ih 4 d (addV v w) q (by decide) c (by show 6 * (L - q) + 0 < n; omega)
        exact ⟨g1, fun z => by obtain ⟨x, _, y⟩ := g2 z; exact ⟨by omega, fun _ => by omega, y⟩⟩
      · split
        · have s3 := s3 (by omega)
          refine Gd.bnd (ih 1 d v _ (by decide) (by omega) (by show 6 * (L - (sk tp L p + 1)) + 1 < n; omega)) (fun q w a b c => ?_)
          obtain ⟨g1, g2⟩ := ih 4 d (subV v w) q (by decide) c (by show 6 * (L - q) + 0 < n; omega)
          exact ⟨g1, fun z => by obtain ⟨x, _, y⟩ := g2 z; exact ⟨by omega, fun _ => by omega, y⟩⟩
        · exact Gd.ok s1 (fun z => absurd z (by decide)) s2
    | 5, _, hm =>
      have hm : 6 * (L - p) + 0 < n + 1 := hm
      rw [P_5]
      split
      · rename_i e
        have e0 := of_decide_eq_true e
        have s3 := s3 (by omega)
        exact Gd.bnd (ih 3 d v _ (by decide) (by omega) (by show 6 * (L - (sk tp L p + 1)) + 2 < n; omega)) (fun q w a b c => Gd.ok (by omega) (fun _ => by omega) c)
      · exact Gd.bad
    | 6, _, hm =>
      have hm : 6 * (L - p) + 3 < n + 1 := hm
      rw [P_6]
      split
      · have s3 := s3 (by omega)
        split
        · exact Gd.bad
        · exact Gd.bnd (ih 6 _ v _ (by decide) (by omega) (by show 6 * (L - (sk tp L p + 1)) + 3 < n; omega)) (fun q w a b c => Gd.ok (by omega) (fun _ => by omega) c)
      · split
        · have s3 := s3 (by omega)
          split
          · exact Gd.bad
          · exact Gd.bnd (ih 8 _ v _ (by decide) (by omega) (by show 6 * (L - (sk tp L p + 1)) + 5 < n; omega)) (fun q w a b c => Gd.cl (by decide) (by omega))
        · refine Gd.bnd (ih 3 d v _ (by decide) s2 (by show 6 * (L - sk tp L p) + 2 < n; omega)) (fun q w a b c => ?_)
          have b := b rfl
          obtain ⟨g1, g2⟩ := ih 5 d w q (by decide) c (by show 6 * (L - q) + 0 < n; omega)
          exact ⟨g1, fun z => by obtain ⟨x, _, y⟩ := g2 z; exact ⟨by omega, fun _ => by omega, y⟩⟩
    | 7, _, hm =>
      have hm : 6 * (L - p) + 0 < n + 1 := hm
      rw [P_7]
      split
      · have s3 := s3 (by omega)
        refine Gd.bnd (ih 6 d v _ (by decide) (by omega) (by show 6 * (L - (sk tp L p + 1)) + 3 < n; omega)) (fun q w a b c => ?_)
        obtain ⟨g1, g2⟩ := ih 7 d (andV v w) q (by decide) c (by show 6 * (L - q) + 0 < n; omega)
        exact ⟨g1, fun z => by obtain ⟨x, _, y⟩ := g2 z; exact ⟨by omega, fun _ => by omega, y⟩⟩
      · exact Gd.ok s1 (fun z => absurd z (by decide)) s2
    | 8, _, hm =>
      have hm : 6 * (L - p) + 5 < n + 1 := hm
      rw [P_8]
      refine Gd.bnd (ih 10 d v p (by decide) hp (by show 6 * (L - p) + 4 < n; omega)) (fun q w a b c => ?_)
      have b := b rfl
      obtain ⟨g1, g2⟩ := ih 9 d w q (by decide) c (by show 6 * (L - q) + 0 < n; omega)
      exact ⟨g1, fun z => by obtain ⟨x, _, y⟩ := g2 z; exact ⟨by omega, fun _ => by omega, y⟩⟩
    | 9, _, hm =>
      have hm : 6 * (L - p) + 0 < n + 1 := hm
      rw [P_9]
      split
      · have s3 := s3 (by omega)
        refine Gd.bnd (ih 10 d v _ (by decide) (by omega) (by show 6 * (L - (sk tp L p + 1)) + 4 < n; omega)) (fun q w a b c => ?_)
        obtain ⟨g1, g2⟩ := ih 9 d (orV v w) q (by decide) c (by show 6 * (L - q) + 0 < n; omega)
        exact ⟨g1, fun z => by obtain ⟨x, _, y⟩ := g2 z; exact ⟨by omega, fun _ => by omega, y⟩⟩
      · exact Gd.ok s1 (fun z => absurd z (by decide)) s2
    | 10, _, hm =>
      have hm : 6 * (L - p) + 4 < n + 1 := hm
      rw [P_10]
      refine Gd.bnd (ih 6 d v p (by decide) hp (by show 6 * (L - p) + 3 < n; omega)) (fun q w a b c => ?_)
      have b := b rfl
      obtain ⟨g1, g2⟩ := ih 7 d w q (by decide) c (by show 6 * (L - q) + 0 < n; omega)
      exact ⟨g1, fun z => by obtain ⟨x, _, y⟩ := g2 z; exact ⟨by omega, fun _ => by omega, y⟩⟩
    | m + 11, hk, _ => omega
/-- values within bounds -/
def okv (x : Int32) : Prop := -1000000 ≤ x.toInt ∧ x.toInt ≤ 1000000
def bdv (v : VF) : Prop := ∀ lt, (∀ i, i < 6 → okv (lt i)) → okv (v lt)
theorem wi_int (n : Int64) : (wi n).toInt = max (-1000000) (min n.toInt 1000000) := by
  have e1 : (lN 1000000).toInt = 1000000 := by decide
  have e2 : (-lN 1000000).toInt = -1000000 := by decide
  have key : ∀ m : Int64, -1000000 ≤ m.toInt → m.toInt ≤ 1000000 → m.toInt32.toInt = m.toInt := fun m a b => by
    rw [Int64.toInt_toInt32]
    exact Int.bmod_eq_of_le (by omega) (by omega)
  unfold wi wiM
  by_cases q : n < lN 1000000
  · rw [if_pos q]
    have q' := Int64.lt_iff_toInt_lt.mp q
    by_cases q2 : n < -lN 1000000
    · rw [if_pos q2]
      have q2' := Int64.lt_iff_toInt_lt.mp q2
      rw [key _ (by omega) (by omega)]
      omega
    · rw [if_neg q2]
      have q2' : ¬ n.toInt < (-lN 1000000).toInt := fun z => q2 (Int64.lt_iff_toInt_lt.mpr z)
      rw [key _ (by omega) (by omega)]
      omega
  · rw [if_neg q]
    have q' : ¬ n.toInt < (lN 1000000).toInt := fun z => q (Int64.lt_iff_toInt_lt.mpr z)
    rw [if_neg (by decide), key _ (by decide) (by decide)]
    omega
theorem wi_ok (n : Int64) : okv (wi n) := by
  unfold okv
  rw [wi_int]
  omega
theorem P_bd : ∀ n k d v p, k < 5 → (k = 2 ∨ k = 4 → bdv v) → (P tp L n k d v p).1 = 0 → bdv (P tp L n k d v p).2.2 := by
  have hb : ∀ (r : PRs) (f : Nat → VF → PRs), (r.1 = 0 → bdv r.2.2) → (∀ q w, bdv w → (f q w).1 = 0 → bdv (f q w).2.2) → (bnd r f).1 = 0 → bdv (bnd r f).2.2 := fun r f a b c => by
    by_cases z : r.1 = 0
    · rw [bnd_0 z] at c ⊢
      exact b _ _ (a z) c
    · rw [bnd_n z] at c
      exact absurd c z
  intro n
  induction n with
  | zero => intro k d v p _ _ h; exact absurd h (by show ¬ (2 : Nat) = 0; decide)
  | succ n ih =>
    intro k d v p hk hv
    match k, hk with
    | 0, _ =>
      rw [P_0]
      split
      · unfold nmQ
        split
        · intro h; exact absurd h (by show ¬ (1 : Nat) = 0; decide)
        · intro _ lt _
          have h1 := nmF_v (tp := tp) (L := L) 4 (sk tp L p) 0
          show okv (nI _)
          unfold okv
          rw [nI_toInt (by omega)]
          omega
      · split
        · split
          · intro h; exact absurd h (by show ¬ (1 : Nat) = 0; decide)
          · refine hb _ _ (ih 3 _ v _ (by decide) (fun z => by omega)) (fun q w hw => ?_)
            unfold clo
            split
            · intro _; exact hw
            · intro h; exact absurd h (by show ¬ (1 : Nat) = 0; decide)
        · split
          · rename_i e
            intro _ lt hl
            exact hl _ e
          · intro h; exact absurd h (by show ¬ (1 : Nat) = 0; decide)
    | 1, _ =>
      rw [P_1]
      exact hb _ _ (ih 0 _ v _ (by decide) (fun z => by omega)) (fun q w hw => ih 2 _ w _ (by decide) (fun _ => hw))
    | 2, _ =>
      rw [P_2]
      split
      · exact hb _ _ (ih 0 _ v _ (by decide) (fun z => by omega)) (fun q w hw => ih 2 _ _ _ (by decide) (fun _ lt _ => wi_ok _))
      · split
        · exact hb _ _ (ih 0 _ v _ (by decide) (fun z => by omega)) (fun q w hw => ih 2 _ _ _ (by decide) (fun _ lt _ => wi_ok _))
        · exact fun _ => hv (by omega)
    | 3, _ =>
      rw [P_3]
      exact hb _ _ (ih 1 _ v _ (by decide) (fun z => by omega)) (fun q w hw => ih 4 _ w _ (by decide) (fun _ => hw))
    | 4, _ =>
      rw [P_4]
      split
      · exact hb _ _ (ih 1 _ v _ (by decide) (fun z => by omega)) (fun q w hw => ih 4 _ _ _ (by decide) (fun _ lt _ => wi_ok _))
      · split
        · exact hb _ _ (ih 1 _ v _ (by decide) (fun z => by omega)) (fun q w hw => ih 4 _ _ _ (by decide) (fun _ lt _ => wi_ok _))
        · exact fun _ => hv (by omega)
    | m + 5, hk => omega
end
