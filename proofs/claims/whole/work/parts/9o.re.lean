/-! Both states, in one heap. -/
def PI (n d ac : Nat) (cl wt hd fc dn wh de dy : Nat → Nat) : Prop := n ≤ 5 ∧ d ≤ 40 ∧ ac ≤ 60 ∧ (∀ j, j < 30 → cl j ≤ 60) ∧ (∀ j, j < 30 → wt j ≤ 12) ∧ (∀ l, l < n → sm 6 (wtF wt l) = 12) ∧ (∀ j, j < 200 → hd j < 40) ∧ (∀ j, j < 200 → fc j < 6) ∧ (∀ j, j < 240 → dn j < 64) ∧ (∀ k, k < ac → wh k < 6 ∧ de k < 6 ∧ dy k < 40) ∧ LkA dn ac wh de dy ∧ ∀ y, y < 40 → flN dy y ac + dpS dn y 6 = ac
def CV (h : Hp) (A B C X L H T O M n d ac : Nat) (cl wt hd fc th dn : Nat → Nat) (x : Int64) (bf : Nat → Int64) : Prop := hI h A 0 = nI n ∧ (∀ j, j < 30 → hI h B j = nI (cl j)) ∧ (∀ j, j < 30 → hI h C j = nI (wt j)) ∧ hL h X 0 = x ∧ (0 < d → hI h X 1 = nI n) ∧ hI h X 2 = nI d ∧ hI h X 3 = nI ac ∧ (∀ j, j < 200 → hI h L j = nI (fc j)) ∧ (∀ j, j < 200 → hI h H j = nI (hd j)) ∧ (∀ j, j < 40 → hI h T j = nI (th j)) ∧ (∀ j, j < 240 → hI h O j = nI (dn j)) ∧ ∀ j, j < 40 → hL h M j = bf j
def MV (h : Hp) (n d ac : Nat) (cl wt hd fc th wh de dy : Nat → Nat) (x : Int64) (bf : Nat → Int64) : Prop := hI h 74 20 = nI n ∧ (∀ j, j < 30 → hI h 79 j = nI (cl j)) ∧ (∀ j, j < 30 → hI h 81 j = nI (wt j)) ∧ (∀ j, j < 200 → hI h 86 j = nI (hd j)) ∧ (∀ j, j < 200 → hI h 87 j = nI (fc j)) ∧ (∀ j, j < 40 → hI h 88 j = nI (th j)) ∧ hI h 74 30 = nI d ∧ hI h 74 44 = nI ac ∧ hL h 74 31 = x ∧ (∀ k, k < ac → hI h 91 k = nI (wh k) ∧ hI h 92 k = nI (de k) ∧ hI h 93 k = nI (dy k)) ∧ ∀ j, j < 40 → hL h 89 j = bf j
def MI (h : Hp) (n d ac : Nat) (cl wt hd fc th wh de dy : Nat → Nat) (x : Int64) (bf : Nat → Int64) : Prop := hI h 74 47 = nI n ∧ (∀ j, j < 30 → hI h 94 j = nI (cl j)) ∧ (∀ j, j < 30 → hI h 94 (30 + j) = nI (wt j)) ∧ (∀ j, j < 200 → hI h 94 (60 + j) = nI (hd j)) ∧ (∀ j, j < 200 → hI h 94 (260 + j) = nI (fc j)) ∧ (∀ j, j < 40 → hI h 94 (460 + j) = nI (th j)) ∧ hI h 74 48 = nI d ∧ hI h 74 49 = nI ac ∧ hL h 74 51 = x ∧ (∀ k, k < ac → hI h 94 (500 + k) = nI (wh k) ∧ hI h 94 (560 + k) = nI (de k) ∧ hI h 94 (620 + k) = nI (dy k)) ∧ ∀ j, j < 40 → hL h 95 j = bf j
def KPr (h : Hp) : Prop := (hI h 0 10 = nI 0 ∧ hI h 74 52 = nI 0) ∨ (hI h 0 10 = nI 1 ∧ hI h 74 52 = nI 1 ∧ ∃ n d ac cl wt hd fc th dn wh de dy x bf, PI n d ac cl wt hd fc dn wh de dy ∧ CV h 21 22 23 24 25 26 27 28 29 n d ac cl wt hd fc th dn x bf ∧ MI h n d ac cl wt hd fc th wh de dy x bf)
def TPr (h : Hp) : Prop := ∃ T, TC h T ∧ TM h T
def RUr (h : Hp) : Prop := ∃ (m : Nat) (LL : Nat → Nat) (TT : Nat → Nat → Nat), m ≤ 4 ∧ hI h 0 2 = nI m ∧ hI h 74 7 = nI m ∧ ∀ i, i < m → XT h (66 + 2 * i) (67 + 2 * i) (LL i) (TT i) ∧ XM h 76 (120 * i) (LL i) (TT i) ∧ hI h 77 i = nI (LL i) ∧ (ruP (TT i) (LL i)).1 = 0
def SUr (h : Hp) : Prop := ∀ j, j < 6 → hI h 31 j = hI h 82 j
def ISr (h : Hp) : Prop := hI h 7 4 = nI 0 ∧ okl (fun i => hI h 10 i)
def MEr (h : Hp) : Prop := ∃ e, e < 6 ∧ hI h 74 35 = nI e
def VWr (h : Hp) : Prop := ∃ n d ac cl wt hd fc th dn wh de dy x bf, PI n d ac cl wt hd fc dn wh de dy ∧ CV h 11 12 13 14 15 16 17 18 19 n d ac cl wt hd fc th dn x bf ∧ MV h n d ac cl wt hd fc th wh de dy x bf
def Rel (h : Hp) : Prop := Fr h ∧ TPr h ∧ RUr h ∧ SUr h ∧ ISr h ∧ MEr h ∧ KPr h ∧ VWr h
/-- the same at these cells -/
def Ag (R : Nat → Nat → Bool) (h h1 : Hp) : Prop := hK h1 = hK h ∧ hN h1 = hN h ∧ ∀ u j, R u j = true → hI h1 u j = hI h u j ∧ hL h1 u j = hL h u j ∧ hR h1 u j = hR h u j
def rT (u j : Nat) : Bool := u == 2 || u == 75 || (u == 1 && j == 1) || (u == 74 && j == 6)
def rU (u j : Nat) : Bool := (u == 0 && j == 2) || (u == 74 && j == 7) || u == 76 || u == 77 || u == 66 || u == 67 || u == 68 || u == 69 || u == 70 || u == 71 || u == 72 || u == 73
def rS (u _j : Nat) : Bool := u == 31 || u == 82
def rI (u j : Nat) : Bool := (u == 7 && j == 4) || u == 10
def rE (u j : Nat) : Bool := u == 74 && j == 35
def rKc (u j : Nat) : Bool := (u == 21 && j == 0) || u == 22 || u == 23 || (u == 24 && (j == 0 || j == 1 || j == 2 || j == 3)) || u == 25 || u == 26 || u == 27 || u == 28 || u == 29
def rKm (u j : Nat) : Bool := u == 94 || u == 95 || (u == 74 && (j == 47 || j == 48 || j == 49 || j == 51))
def rK (u j : Nat) : Bool := rKc u j || rKm u j || (u == 0 && j == 10) || (u == 74 && j == 52)
def rC (u j : Nat) : Bool := (u == 11 && j == 0) || u == 12 || u == 13 || (u == 14 && (j == 0 || j == 1 || j == 2 || j == 3)) || u == 15 || u == 16 || u == 17 || u == 18 || u == 19
def rM (u j : Nat) : Bool := u == 79 || u == 81 || u == 86 || u == 87 || u == 88 || u == 89 || u == 91 || u == 92 || u == 93 || (u == 74 && (j == 20 || j == 30 || j == 31 || j == 44))
section
variable {R S : Nat → Nat → Bool} {h h1 h2 : Hp}
theorem Sm.ag (s : Sm S h h1) (q : ∀ u j, R u j = true → S u j = false) : Ag R h h1 := ⟨s.1, s.2.1, fun u j e => s.2.2.2.2.2 u j (q u j e)⟩
theorem Ag.tr (a : Ag R h h1) (b : Ag R h1 h2) : Ag R h h2 := ⟨b.1.trans a.1, b.2.1.trans a.2.1, fun u j e => by
  obtain ⟨a1, a2, a3⟩ := a.2.2 u j e
  obtain ⟨b1, b2, b3⟩ := b.2.2 u j e
  exact ⟨b1.trans a1, b2.trans a2, b3.trans a3⟩⟩
theorem Ag.i (a : Ag R h h1) (u j : Nat) (e : R u j = true) : hI h1 u j = hI h u j := (a.2.2 u j e).1
theorem Ag.l (a : Ag R h h1) (u j : Nat) (e : R u j = true) : hL h1 u j = hL h u j := (a.2.2 u j e).2.1
theorem Ag.r (a : Ag R h h1) (u j : Nat) (e : R u j = true) : hR h1 u j = hR h u j := (a.2.2 u j e).2.2
theorem TC.ag {T : Nat × (Nat → Nat)} (t : TC h T) (a : Ag rT h h1) : TC h1 T := ⟨t.1, by rw [a.i 1 1 rfl]; exact t.2.1, fun j hj => by rw [a.i 2 j rfl]; exact t.2.2 j hj⟩
theorem TM.ag {T : Nat × (Nat → Nat)} (t : TM h T) (a : Ag rT h h1) : TM h1 T := ⟨t.1, by rw [a.i 74 6 rfl]; exact t.2.1, fun j hj => by rw [a.i 75 j rfl]; exact t.2.2 j hj⟩
theorem TPr.ag (t : TPr h) (a : Ag rT h h1) : TPr h1 := by
  obtain ⟨T, c, m⟩ := t
  exact ⟨T, c.ag a, m.ag a⟩
theorem XT.ag {i L : Nat} {tp : Nat → Nat} (hi : i < 4) (x : XT h (66 + 2 * i) (67 + 2 * i) L tp) (a : Ag rU h h1) : XT h1 (66 + 2 * i) (67 + 2 * i) L tp := by
  obtain ⟨x1, x2, x3, x4, x5, x6, x7, x8⟩ := x
  have e1 : ∀ j, rU (66 + 2 * i) j = true := fun j => by simp only [rU, Bool.or_eq_true, Bool.and_eq_true, beq_iff_eq]; omega
  have e2 : ∀ j, rU (67 + 2 * i) j = true := fun j => by simp only [rU, Bool.or_eq_true, Bool.and_eq_true, beq_iff_eq]; omega
  exact ⟨by rw [a.1]; exact x1, by rw [a.r _ 0 (e1 0)]; exact x2, by rw [a.i _ 1 (e1 1)]; exact x3, by rw [a.1]; exact x4, by rw [a.2.1]; exact x5, x6, fun j hj => by rw [a.i _ j (e2 j)]; exact x7 j hj, x8⟩
theorem RUr.ag (r : RUr h) (a : Ag rU h h1) : RUr h1 := by
  obtain ⟨m, LL, TT, m4, e1, e2, r⟩ := r
  refine ⟨m, LL, TT, m4, by rw [a.i 0 2 rfl]; exact e1, by rw [a.i 74 7 rfl]; exact e2, fun i hi => ?_⟩
  obtain ⟨r1, r2, r3, r4⟩ := r i hi
  obtain ⟨x1, x2, x3, x4, x5, x6⟩ := r2
  exact ⟨r1.ag (by omega) a, ⟨by rw [a.1]; exact x1, by rw [a.2.1]; exact x2, by rw [a.2.1]; exact x3, x4, fun j hj => by rw [a.i 76 _ rfl]; exact x5 j hj, x6⟩, by rw [a.i 77 i rfl]; exact r3, r4⟩
theorem SUr.ag (s : SUr h) (a : Ag rS h h1) : SUr h1 := fun j hj => by rw [a.i 31 j rfl, a.i 82 j rfl]; exact s j hj
theorem ISr.ag (s : ISr h) (a : Ag rI h h1) : ISr h1 := ⟨by rw [a.i 7 4 rfl]; exact s.1, fun i hi => by show okv (hI h1 10 i); rw [a.i 10 i rfl]; exact s.2 i hi⟩
theorem MEr.ag (s : MEr h) (a : Ag rE h h1) : MEr h1 := by
  obtain ⟨e, he, q⟩ := s
  exact ⟨e, he, by rw [a.i 74 35 rfl]; exact q⟩
section
variable {n d ac : Nat} {cl wt hd fc th dn wh de dy : Nat → Nat} {x : Int64} {bf : Nat → Int64}
theorem CV.agK (c : CV h 21 22 23 24 25 26 27 28 29 n d ac cl wt hd fc th dn x bf) (a : Ag rKc h h1) : CV h1 21 22 23 24 25 26 27 28 29 n d ac cl wt hd fc th dn x bf := by
  obtain ⟨c1, c2, c3, c4, c5, c6, c7, c8, c9, c10, c11, c12⟩ := c
  exact ⟨(a.i 21 0 rfl).trans c1, fun j hj => (a.i 22 j rfl).trans (c2 j hj), fun j hj => (a.i 23 j rfl).trans (c3 j hj), (a.l 24 0 rfl).trans c4, fun z => (a.i 24 1 rfl).trans (c5 z), (a.i 24 2 rfl).trans c6, (a.i 24 3 rfl).trans c7, fun j hj => (a.i 25 j rfl).trans (c8 j hj), fun j hj => (a.i 26 j rfl).trans (c9 j hj), fun j hj => (a.i 27 j rfl).trans (c10 j hj), fun j hj => (a.i 28 j rfl).trans (c11 j hj), fun j hj => (a.l 29 j rfl).trans (c12 j hj)⟩
theorem CV.agC (c : CV h 11 12 13 14 15 16 17 18 19 n d ac cl wt hd fc th dn x bf) (a : Ag rC h h1) : CV h1 11 12 13 14 15 16 17 18 19 n d ac cl wt hd fc th dn x bf := by
  obtain ⟨c1, c2, c3, c4, c5, c6, c7, c8, c9, c10, c11, c12⟩ := c
  exact ⟨(a.i 11 0 rfl).trans c1, fun j hj => (a.i 12 j rfl).trans (c2 j hj), fun j hj => (a.i 13 j rfl).trans (c3 j hj), (a.l 14 0 rfl).trans c4, fun z => (a.i 14 1 rfl).trans (c5 z), (a.i 14 2 rfl).trans c6, (a.i 14 3 rfl).trans c7, fun j hj => (a.i 15 j rfl).trans (c8 j hj), fun j hj => (a.i 16 j rfl).trans (c9 j hj), fun j hj => (a.i 17 j rfl).trans (c10 j hj), fun j hj => (a.i 18 j rfl).trans (c11 j hj), fun j hj => (a.l 19 j rfl).trans (c12 j hj)⟩
theorem MV.ag (c : MV h n d ac cl wt hd fc th wh de dy x bf) (a : Ag rM h h1) : MV h1 n d ac cl wt hd fc th wh de dy x bf := by
  obtain ⟨c1, c2, c3, c4, c5, c6, c7, c8, c9, c10, c11⟩ := c
  exact ⟨(a.i 74 20 rfl).trans c1, fun j hj => (a.i 79 j rfl).trans (c2 j hj), fun j hj => (a.i 81 j rfl).trans (c3 j hj), fun j hj => (a.i 86 j rfl).trans (c4 j hj), fun j hj => (a.i 87 j rfl).trans (c5 j hj), fun j hj => (a.i 88 j rfl).trans (c6 j hj), (a.i 74 30 rfl).trans c7, (a.i 74 44 rfl).trans c8, (a.l 74 31 rfl).trans c9, fun k hk => ⟨(a.i 91 k rfl).trans (c10 k hk).1, (a.i 92 k rfl).trans (c10 k hk).2.1, (a.i 93 k rfl).trans (c10 k hk).2.2⟩, fun j hj => (a.l 89 j rfl).trans (c11 j hj)⟩
theorem MI.ag (c : MI h n d ac cl wt hd fc th wh de dy x bf) (a : Ag rKm h h1) : MI h1 n d ac cl wt hd fc th wh de dy x bf := by
  obtain ⟨c1, c2, c3, c4, c5, c6, c7, c8, c9, c10, c11⟩ := c
  exact ⟨(a.i 74 47 rfl).trans c1, fun j hj => (a.i 94 j rfl).trans (c2 j hj), fun j hj => (a.i 94 _ rfl).trans (c3 j hj), fun j hj => (a.i 94 _ rfl).trans (c4 j hj), fun j hj => (a.i 94 _ rfl).trans (c5 j hj), fun j hj => (a.i 94 _ rfl).trans (c6 j hj), (a.i 74 48 rfl).trans c7, (a.i 74 49 rfl).trans c8, (a.l 74 51 rfl).trans c9, fun k hk => ⟨(a.i 94 _ rfl).trans (c10 k hk).1, (a.i 94 _ rfl).trans (c10 k hk).2.1, (a.i 94 _ rfl).trans (c10 k hk).2.2⟩, fun j hj => (a.l 95 j rfl).trans (c11 j hj)⟩
end
theorem Ag.mono {R' : Nat → Nat → Bool} (a : Ag R h h1) (q : ∀ u j, R' u j = true → R u j = true) : Ag R' h h1 := ⟨a.1, a.2.1, fun u j e => a.2.2 u j (q u j e)⟩
theorem KPr.ag (k : KPr h) (a : Ag rK h h1) : KPr h1 := by
  have a1 : Ag rKc h h1 := a.mono (fun u j z => by simp only [rK, z, Bool.true_or])
  have a2 : Ag rKm h h1 := a.mono (fun u j z => by simp only [rK, z, Bool.true_or, Bool.or_true])
  rcases k with ⟨k1, k2⟩ | ⟨k1, k2, n, d, ac, cl, wt, hd, fc, th, dn, wh, de, dy, x, bf, p, c, m⟩
  · exact Or.inl ⟨(a.i 0 10 rfl).trans k1, (a.i 74 52 rfl).trans k2⟩
  · exact Or.inr ⟨(a.i 0 10 rfl).trans k1, (a.i 74 52 rfl).trans k2, n, d, ac, cl, wt, hd, fc, th, dn, wh, de, dy, x, bf, p, c.agK a1, m.ag a2⟩
theorem VWr.ag (v : VWr h) (a : Ag rC h h1) (b : Ag rM h h1) : VWr h1 := by
  obtain ⟨n, d, ac, cl, wt, hd, fc, th, dn, wh, de, dy, x, bf, p, c, m⟩ := v
  exact ⟨n, d, ac, cl, wt, hd, fc, th, dn, wh, de, dy, x, bf, p, c.agC a, m.ag b⟩
/-- all that a call of this kind leaves alone -/
def rA (u j : Nat) : Bool := rT u j || rU u j || rS u j || rI u j || rK u j || rC u j || rM u j
theorem Rel.ag (r : Rel h) (a : Ag rA h h1) (f : Fr h1) (e : MEr h1) : Rel h1 := by
  obtain ⟨r1, r2, r3, r4, r5, r6, r7, r8⟩ := r
  refine ⟨f, r2.ag (a.mono ?_), r3.ag (a.mono ?_), r4.ag (a.mono ?_), r5.ag (a.mono ?_), e, r7.ag (a.mono ?_), r8.ag (a.mono ?_) (a.mono ?_)⟩
  all_goals
    intro u j z
    simp only [rA, z, Bool.true_or, Bool.or_true]
end
/-- two calls, the same int -/
def SmI (E k k' : Nat) (a a' : List Value) (h : Hp) : Prop := Ev E k a h (fun v h1 => ∃ u : Int32, v = some (.int u) ∧ hK h1 = hK h ∧ Ev E k' a' h1 (fun w h2 => w = some (.int u) ∧ Rel h2 ∧ hC h2 = hC h ∧ hS h2 = hS h))
def SmL (E k k' : Nat) (a a' : List Value) (h : Hp) : Prop := Ev E k a h (fun v h1 => ∃ u : Int64, v = some (.long u) ∧ hK h1 = hK h ∧ Ev E k' a' h1 (fun w h2 => w = some (.long u) ∧ Rel h2 ∧ hC h2 = hC h ∧ hS h2 = hS h))
def SmV (E k k' : Nat) (a a' : List Value) (h : Hp) : Prop := Ev E k a h (fun v h1 => v = none ∧ hK h1 = hK h ∧ Ev E k' a' h1 (fun w h2 => w = none ∧ Rel h2 ∧ hC h2 = hC h ∧ hS h2 = hS h))
def ysD (d : Nat) (hd : Nat → Nat) (i : Nat) : Nat := if d = 0 then 0 else hd (5 * (d - 1) + i)
section
variable {n d ac : Nat} {cl wt hd fc th dn wh de dy : Nat → Nat} {x : Int64} {bf : Nat → Int64} {h : Hp}
theorem ys_eq {g : Nat → Int32} (n5 : n ≤ 5) (d40 : d ≤ 40) (hg : ∀ j, j < 200 → g j = nI (hd j)) : ∀ i, i < n → (if d = 0 then nI 0 else g (5 * (d - 1) + i)) = nI (ysD d hd i) := fun i hi => by
  unfold ysD
  by_cases q : d = 0
  · rw [if_pos q, if_pos q]
  · rw [if_neg q, if_neg q, hg _ (by omega)]
theorem ys_lt (n5 : n ≤ 5) (d40 : d ≤ 40) (hh : ∀ j, j < 200 → hd j < 40) : ∀ i, i < n → ysD d hd i < 40 := fun i hi => by
  unfold ysD
  by_cases q : d = 0
  · rw [if_pos q]; decide
  · rw [if_neg q]; exact hh _ (by omega)
theorem CV.cok (f : Fr h) (p : PI n d ac cl wt hd fc dn wh de dy) (c : CV h 11 12 13 14 15 16 17 18 19 n d ac cl wt hd fc th dn x bf) : COK h n cl wt (ysD d hd) := by
  obtain ⟨n5, d40, ac60, hcl, hwt, hs, hh, hf, hdn, hak, lk, fl⟩ := p
  obtain ⟨c1, c2, c3, c4, c5, c6, c7, c8, c9, c10, c11, c12⟩ := c
  exact ⟨⟨f, n5, c1, fun j hj => ⟨c2 j hj, hcl j hj⟩, fun j hj => ⟨c3 j hj, hwt j hj⟩, d, d40, c6, ys_eq n5 d40 c9⟩, ys_lt n5 d40 hh, hs⟩
theorem MV.mok (f : Fr h) (e : MEr h) (p : PI n d ac cl wt hd fc dn wh de dy) (c : MV h n d ac cl wt hd fc th wh de dy x bf) : MOK h n cl wt (ysD d hd) := by
  obtain ⟨n5, d40, ac60, hcl, hwt, hs, hh, hf, hdn, hak, lk, fl⟩ := p
  obtain ⟨c1, c2, c3, c4, c5, c6, c7, c8, c9, c10, c11⟩ := c
  exact ⟨⟨f, n5, c1, fun j hj => ⟨c2 j hj, hcl j hj⟩, fun j hj => ⟨c3 j hj, hwt j hj⟩, d, d40, c7, ys_eq n5 d40 c4⟩, ⟨ys_lt n5 d40 hh, hs⟩, e⟩
theorem CV.dc (f : Fr h) (p : PI n d ac cl wt hd fc dn wh de dy) (c : CV h 11 12 13 14 15 16 17 18 19 n d ac cl wt hd fc th dn x bf) : DC h n d hd fc th := by
  obtain ⟨n5, d40, ac60, hcl, hwt, hs, hh, hf, hdn, hak, lk, fl⟩ := p
  obtain ⟨c1, c2, c3, c4, c5, c6, c7, c8, c9, c10, c11, c12⟩ := c
  exact ⟨f, n5, c1, d40, c6, c5, c9, fun j hj => ⟨c8 j hj, hf j hj⟩, c10⟩
theorem MV.dm (f : Fr h) (p : PI n d ac cl wt hd fc dn wh de dy) (c : MV h n d ac cl wt hd fc th wh de dy x bf) : DM h n d hd fc th := by
  obtain ⟨n5, d40, ac60, hcl, hwt, hs, hh, hf, hdn, hak, lk, fl⟩ := p
  obtain ⟨c1, c2, c3, c4, c5, c6, c7, c8, c9, c10, c11⟩ := c
  exact ⟨f, n5, c1, d40, c7, c4, fun j hj => ⟨c5 j hj, hf j hj⟩, c6⟩
theorem CV.ca (p : PI n d ac cl wt hd fc dn wh de dy) (c : CV h 11 12 13 14 15 16 17 18 19 n d ac cl wt hd fc th dn x bf) : CA h dn := fun j hj => ⟨c.2.2.2.2.2.2.2.2.2.2.1 j hj, p.2.2.2.2.2.2.2.2.1 j hj⟩
theorem MV.ma (p : PI n d ac cl wt hd fc dn wh de dy) (c : MV h n d ac cl wt hd fc th wh de dy x bf) : MA h ac wh de dy := ⟨p.2.2.1, c.2.2.2.2.2.2.2.1, fun k hk => ⟨c.2.2.2.2.2.2.2.2.2.1 k hk, p.2.2.2.2.2.2.2.2.2.1 k hk⟩⟩
theorem TC.xt {T : Nat × (Nat → Nat)} (f : Fr h) (t : TC h T) : XT h 1 2 T.1 T.2 := ⟨u_k1 f, rfk f 14 rfl, t.2.1, u_k2 f, u_n2 f, t.1, t.2.2, by decide⟩
theorem TM.xm {T : Nat × (Nat → Nat)} (f : Fr h) (t : TM h T) : XM h 75 0 T.1 T.2 := ⟨u_k75 f, by rw [u_n75 f]; have := t.1; omega, by rw [u_n75 f]; decide, t.1, fun j hj => by rw [Nat.zero_add]; exact t.2.2 j hj, by decide⟩
end
