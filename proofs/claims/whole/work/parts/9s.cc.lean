/-! Changes: the readers (fault, text, follow), clause. -/
/-- all but the flag of the reader and its letters -/
def rZ (u j : Nat) : Bool := rT u j || rU u j || rS u j || rE u j || rK u j || rC u j || rM u j
def sFa (u j : Nat) : Bool := sFc u j || sFm u j
def sFl (u j : Nat) : Bool := sFo u j || sFn u j
def sX0 (u j : Nat) : Bool := sTl u j || sTm0 u j
def sX1 (u j : Nat) : Bool := sTr u j || sTm1 u j
/-- for a law: all but tape, views -/
def rL (u j : Nat) : Bool := rU u j || rS u j || rE u j || rK u j
def rR (u j : Nat) : Bool := rS u j || rE u j || rK u j || rC u j || rM u j
theorem dj_fa : ∀ u j, rZ u j = true → sFa u j = false := fun u j z => by
  cases q : sFa u j
  · rfl
  · simp only [rZ, rA, rB, rX, rZ, rL, rR, rT, rU, rS, rI, rE, rK, rKc, rKm, rC, rM, Bool.or_eq_true, Bool.and_eq_true, beq_iff_eq] at z
    simp only [sFa, sFc, sFm, Bool.or_eq_true, Bool.and_eq_true, beq_iff_eq] at q
    omega
theorem dj_fl : ∀ u j, rZ u j = true → sFl u j = false := fun u j z => by
  cases q : sFl u j
  · rfl
  · simp only [rZ, rA, rB, rX, rZ, rL, rR, rT, rU, rS, rI, rE, rK, rKc, rKm, rC, rM, Bool.or_eq_true, Bool.and_eq_true, beq_iff_eq] at z
    simp only [sFl, sFo, sFn, Bool.or_eq_true, Bool.and_eq_true, beq_iff_eq] at q
    omega
theorem dj_x0 : ∀ u j, rL u j = true → sX0 u j = false := fun u j z => by
  cases q : sX0 u j
  · rfl
  · simp only [rL, rA, rB, rX, rZ, rL, rR, rT, rU, rS, rI, rE, rK, rKc, rKm, rC, rM, Bool.or_eq_true, Bool.and_eq_true, beq_iff_eq] at z
    simp only [sX0, sTl, sFc, sBa, sTm0, sFm, Bool.or_eq_true, Bool.and_eq_true, beq_iff_eq] at q
    omega
theorem dj_x1 : ∀ u j, rR u j = true → sX1 u j = false := fun u j z => by
  cases q : sX1 u j
  · rfl
  · simp only [rR, rA, rB, rX, rZ, rL, rR, rT, rU, rS, rI, rE, rK, rKc, rKm, rC, rM, Bool.or_eq_true, Bool.and_eq_true, beq_iff_eq] at z
    simp only [sX1, sTr, sFc, sTm1, sFm, Bool.or_eq_true, Bool.and_eq_true, beq_iff_eq] at q
    omega
section
variable {D : Nat} {h h1 h2 : Hp}
theorem Rel.is (r : Rel h) (a : Ag rZ h h1) (f : Fr h1) (i : ISr h1) : Rel h1 := by
  obtain ⟨r1, r2, r3, r4, r5, r6, r7, r8⟩ := r
  refine ⟨f, r2.ag (a.mono ?_), r3.ag (a.mono ?_), r4.ag (a.mono ?_), i, r6.ag (a.mono ?_), r7.ag (a.mono ?_), r8.ag (a.mono ?_) (a.mono ?_)⟩
  all_goals
    intro u j z
    simp only [rZ, z, Bool.true_or, Bool.or_true]
theorem Sm.tm {T : Nat × (Nat → Nat)} {S : Nat → Nat → Bool} (w : Sm S h h1) (e1 : S 74 6 = false) (e2 : ∀ j, S 75 j = false) (t : TM h T) : TM h1 T := ⟨t.1, (w.i 74 6 e1).trans t.2.1, fun j hj => by rw [w.i 75 j (e2 j)]; exact t.2.2 j hj⟩
theorem is_10 {S : Nat → Nat → Bool} (is : ISr h) (w : Sm S h h1) (e : ∀ j, S 10 j = false) (a : hI h1 7 4 = nI 0) : ISr h1 := ⟨a, fun i hi => by show okv (hI h1 10 i); rw [w.i 10 i (e i)]; exact is.2 i hi⟩
theorem fa_Rel (r : Rel h) (w1 : Sm sFc h h1) (a : hI h1 7 4 = nI 0) (w2 : Sm sFm h1 h2) : Rel h2 ∧ hC h2 = hC h ∧ hS h2 = hS h := by
  have w : Sm sFa h h2 := (w1.mn (fun u j z => by simp only [sFa, z, Bool.true_or])).tr (w2.mn (fun u j z => by simp only [sFa, z, Bool.or_true]))
  exact ⟨r.is (w.ag dj_fa) (w.fr r.1 (by decide)) (is_10 r.2.2.2.2.1 w (fun _ => rfl) ((w2.i 7 4 rfl).trans a)), w2.2.2.2.1.trans w1.2.2.2.1, w2.2.2.2.2.1.trans w1.2.2.2.2.1⟩
theorem r_fault {x : Int32} (r : Rel h) : SmI (D + 830) 3 107 [.ref 0, .int x] [.ref 74, .int x] h := by
  obtain ⟨f, ⟨T, tc, tm⟩, ru, su, is, me, kp, v⟩ := id r
  refine c_fault (D := D + 10) f (tc.xt f) is.1 is.2 (fun H1 w1 a1 => ?_)
  have f1 : Fr H1 := w1.fr f (by decide)
  have tm1 := w1.tm rfl (fun _ => rfl) tm
  exact ⟨_, rfl, w1.1, m_fault (D := D + 10) f1 (tm1.xm f1) tm1.2.1 (fun H2 w2 => ⟨rfl, fa_Rel r w1 a1 w2⟩)⟩
theorem okc_60 {v : Nat} (h : okc v) : v ≤ 60 := by
  rcases h with h | h <;> omega
theorem tn0 : TC h (0, fun _ => 0) ↔ hI h 1 1 = nI 0 := ⟨fun t => t.2.1, fun e => ⟨Nat.zero_le _, e, fun j hj => absurd hj (Nat.not_lt_zero j)⟩⟩
theorem tm0 : TM h (0, fun _ => 0) ↔ hI h 74 6 = nI 0 := ⟨fun t => t.2.1, fun e => ⟨Nat.zero_le _, e, fun j hj => absurd hj (Nat.not_lt_zero j)⟩⟩
set_option maxHeartbeats 1000000 in
theorem r_text0 (r : Rel h) : SmI (D + 830) 4 108 [.ref 0, .int (nI 0)] [.ref 74, .int (nI 0)] h := by
  obtain ⟨f, ⟨T, tc, tm⟩, ru, su, is, me, kp, n, d, ac, cl, wt, hd, fc, th, dn, wh, de, dy, xx, bf, p, cv, mv⟩ := id r
  have n5 := p.1
  have d40 := p.2.1
  refine c_text0 (D := D + 810) f (tc.xt f) is.1 cv.1 n5 cv.2.2.2.2.2.1 d40 (fun g H1 w1 a1 => ?_) (fun g1 g2 g3 H1 w1 a1 a2 a3 a4 a5 => ?_)
  · have f1 : Fr H1 := w1.fr f (by decide)
    have tm1 := w1.tm rfl (fun _ => rfl) tm
    exact ⟨_, rfl, w1.1, m_text0 (D := D) f1 (tm1.xm f1) tm1.2.1 ((w1.i 74 20 rfl).trans mv.1) n5 ((w1.i 74 30 rfl).trans mv.2.2.2.2.2.2.1) d40 (fun _ H2 w2 => ⟨rfl, fa_Rel r w1 a1 w2⟩) (fun z1 z2 z3 => absurd ⟨z1, z2, z3⟩ g)⟩
  · have f1 : Fr H1 := w1.fr f (by decide)
    have tm1 := w1.tm rfl (fun _ => rfl) tm
    refine ⟨_, rfl, w1.1, m_text0 (D := D) f1 (tm1.xm f1) tm1.2.1 ((w1.i 74 20 rfl).trans mv.1) n5 ((w1.i 74 30 rfl).trans mv.2.2.2.2.2.2.1) d40 (fun z => absurd ⟨g1, g2, g3⟩ z) (fun _ _ _ H2 w2 b2 b3 b4 b5 => ⟨rfl, ?_, w2.2.2.2.1.trans w1.2.2.2.1, w2.2.2.2.2.1.trans w1.2.2.2.2.1⟩)⟩
    have w : Sm sX0 h H2 := (w1.mn (fun u j z => by simp only [sX0, z, Bool.true_or])).tr (w2.mn (fun u j z => by simp only [sX0, z, Bool.or_true]))
    have a := w.ag dj_x0
    have lo := (lwP_01 (tp := T.2) (L := T.1)).2.2
    generalize (lwP T.2 T.1).2.2 = lw at a4 b4 lo
    refine ⟨w.fr f (by decide), ⟨(0, fun _ => 0), tn0.mpr ((w2.i 1 1 rfl).trans a2), tm0.mpr b2⟩, ru.ag (a.mono ?_), su.ag (a.mono ?_), is_10 is w (fun _ => rfl) ((w2.i 7 4 rfl).trans a1), me.ag (a.mono ?_), kp.ag (a.mono ?_), ?_⟩
    iterate 4
      intro u j z
      simp only [rL, z, Bool.true_or, Bool.or_true]
    have pp := p
    obtain ⟨n5, d40, ac60, hcl, hwt, hs, hh, hf, hdn, hak, lk, fl⟩ := p
    obtain ⟨c1, c2, c3, c4, c5, c6, c7, c8, c9, c10, c11, c12⟩ := cv
    obtain ⟨m1, m2, m3, m4, m5, m6, m7, m8, m9, m10, m11⟩ := mv
    refine ⟨n + 1, d, ac, fun j => if 6 * n ≤ j ∧ j < 6 * n + 6 then lw (j - 6 * n) else cl j, fun j => if 6 * n ≤ j ∧ j < 6 * n + 6 then 2 else wt j, hd, fc, th, dn, wh, de, dy, xx, bf, ⟨by omega, d40, ac60, fun j hj => ?_, fun j hj => ?_, fun l hl => ?_, hh, hf, hdn, hak, lk, fl⟩, ⟨(w2.i 11 0 rfl).trans a3, fun j hj => ?_, fun j hj => ?_, (w.l 14 0 rfl).trans (c4), fun z => absurd z (by omega), (w.i 14 2 rfl).trans (c6), (w.i 14 3 rfl).trans (c7), fun j hj => (w.i 15 j rfl).trans (c8 j hj), fun j hj => (w.i 16 j rfl).trans (c9 j hj), fun j hj => (w.i 17 j rfl).trans (c10 j hj), fun j hj => (w.i 18 j rfl).trans (c11 j hj), fun j hj => (w.l 19 j rfl).trans (c12 j hj)⟩, ⟨b3, fun j hj => ?_, fun j hj => ?_, fun j hj => (w.i 86 j rfl).trans (m4 j hj), fun j hj => (w.i 87 j rfl).trans (m5 j hj), fun j hj => (w.i 88 j rfl).trans (m6 j hj), (w.i 74 30 rfl).trans (m7), (w.i 74 44 rfl).trans (m8), (w.l 74 31 rfl).trans (m9), fun k hk => ⟨(w.i 91 k rfl).trans (m10 k hk).1, (w.i 92 k rfl).trans (m10 k hk).2.1, (w.i 93 k rfl).trans (m10 k hk).2.2⟩, fun j hj => (w.l 89 j rfl).trans (m11 j hj)⟩⟩
    · show (if 6 * n ≤ j ∧ j < 6 * n + 6 then lw (j - 6 * n) else cl j) ≤ 60
      split
      · exact okc_60 (lo _)
      · exact hcl j hj
    · show (if 6 * n ≤ j ∧ j < 6 * n + 6 then 2 else wt j) ≤ 12
      split
      · decide
      · exact hwt j hj
    · by_cases q : l = n
      · subst q
        rw [show sm 6 (wtF (fun j => if 6 * l ≤ j ∧ j < 6 * l + 6 then 2 else wt j) l) = sm 6 (fun _ => 2) from sm_congr (fun k hk => by
          show (if 6 * l ≤ 6 * l + k ∧ 6 * l + k < 6 * l + 6 then 2 else wt (6 * l + k)) = 2
          rw [if_pos (by omega)])]
        rfl
      · rw [← hs l (by omega)]
        exact sm_congr (fun k hk => by
          show (if 6 * n ≤ 6 * l + k ∧ 6 * l + k < 6 * n + 6 then 2 else wt (6 * l + k)) = wt (6 * l + k)
          rw [if_neg (by omega)])
    · show _ = nI (if 6 * n ≤ j ∧ j < 6 * n + 6 then lw (j - 6 * n) else cl j)
      rw [w2.i 12 j rfl, a4 j, nwA]
      by_cases z : 6 * n ≤ j ∧ j < 6 * n + 6
      · rw [if_pos z, if_pos z]
      · rw [if_neg z, if_neg z, c2 j hj]
    · show _ = nI (if 6 * n ≤ j ∧ j < 6 * n + 6 then 2 else wt j)
      rw [w2.i 13 j rfl, a5 j, nwA]
      by_cases z : 6 * n ≤ j ∧ j < 6 * n + 6
      · rw [if_pos z, if_pos z]
      · rw [if_neg z, if_neg z, c3 j hj]
    · show _ = nI (if 6 * n ≤ j ∧ j < 6 * n + 6 then lw (j - 6 * n) else cl j)
      rw [b4 j, nwA]
      by_cases z : 6 * n ≤ j ∧ j < 6 * n + 6
      · rw [if_pos z, if_pos z]
      · rw [if_neg z, if_neg z, w1.i 79 j rfl, m2 j hj]
    · show _ = nI (if 6 * n ≤ j ∧ j < 6 * n + 6 then 2 else wt j)
      rw [b5 j, nwA]
      by_cases z : 6 * n ≤ j ∧ j < 6 * n + 6
      · rw [if_pos z, if_pos z]
      · rw [if_neg z, if_neg z, w1.i 81 j rfl, m3 j hj]
theorem rt_s {m : Nat} (f : Fr h) (m4 : m < 4) : hK h (66 + 2 * m) = 9 ∧ hR h (66 + 2 * m) 0 = some (67 + 2 * m) ∧ hK h (67 + 2 * m) = 20 ∧ hN h (67 + 2 * m) = 120 := by
  rcases (show m = 0 ∨ m = 1 ∨ m = 2 ∨ m = 3 by omega) with q | q | q | q <;> subst q
  · exact ⟨u_k66 f, f.2.1 (66, 0, 67) (by decide), u_k67 f, u_n67 f⟩
  · exact ⟨u_k68 f, f.2.1 (68, 0, 69) (by decide), u_k69 f, u_n69 f⟩
  · exact ⟨u_k70 f, f.2.1 (70, 0, 71) (by decide), u_k71 f, u_n71 f⟩
  · exact ⟨u_k72 f, f.2.1 (72, 0, 73) (by decide), u_k73 f, u_n73 f⟩
set_option maxHeartbeats 1000000 in
theorem r_text1 (r : Rel h) : SmI (D + 830) 4 108 [.ref 0, .int (nI 1)] [.ref 74, .int (nI 1)] h := by
  obtain ⟨f, ⟨T, tc, tm⟩, ⟨m, LL, TT, m4, e1, e2, rr⟩, su, is, me, kp, v⟩ := id r
  refine c_text1 (D := D) f (tc.xt f) is.1 is.2 e1 m4 (fun g H1 w1 a1 => ?_) (fun g1 g2 H1 w1 a1 a2 a3 a4 => ?_)
  · have f1 : Fr H1 := w1.fr f (by decide)
    have tm1 := w1.tm rfl (fun _ => rfl) tm
    exact ⟨_, rfl, w1.1, m_text1 (D := D) f1 (tm1.xm f1) tm1.2.1 ((w1.i 74 7 rfl).trans e2) m4 (fun _ H2 w2 => ⟨rfl, fa_Rel r w1 a1 w2⟩) (fun z1 z2 => absurd ⟨z1, z2⟩ g)⟩
  · have f1 : Fr H1 := w1.fr f (by decide)
    have tm1 := w1.tm rfl (fun _ => rfl) tm
    refine ⟨_, rfl, w1.1, m_text1 (D := D) f1 (tm1.xm f1) tm1.2.1 ((w1.i 74 7 rfl).trans e2) m4 (fun z => absurd ⟨g1, g2⟩ z) (fun _ _ H2 w2 b2 b3 b4 b5 => ⟨rfl, ?_, w2.2.2.2.1.trans w1.2.2.2.1, w2.2.2.2.2.1.trans w1.2.2.2.2.1⟩)⟩
    have w : Sm sX1 h H2 := (w1.mn (fun u j z => by simp only [sX1, z, Bool.true_or])).tr (w2.mn (fun u j z => by simp only [sX1, z, Bool.or_true]))
    have a := w.ag dj_x1
    have f2 : Fr H2 := w.fr f (by decide)
    obtain ⟨l1, l2, l3⟩ := a4
    have no2 : ∀ u j, 66 ≤ u → u ≤ 73 → sTm1 u j = false := fun u j q1 q2 => by
      cases q : sTm1 u j
      · rfl
      · simp only [sTm1, sFm, Bool.or_eq_true, Bool.and_eq_true, beq_iff_eq] at q
        omega
    refine ⟨f2, ⟨(0, fun _ => 0), tn0.mpr ((w2.i 1 1 rfl).trans a2), tm0.mpr b2⟩, ⟨m + 1, fun i => if i = m then T.1 else LL i, fun i => if i = m then T.2 else TT i, by omega, (w2.i 0 2 rfl).trans a3, b3, fun i hi => ?_⟩, su.ag (a.mono ?_), is_10 is w (fun _ => rfl) ((w2.i 7 4 rfl).trans a1), me.ag (a.mono ?_), kp.ag (a.mono ?_), v.ag (a.mono ?_) (a.mono ?_)⟩
    · by_cases q : i = m
      · subst q
        simp only [if_true]
        obtain ⟨k1, k2, k3, k4⟩ := rt_s f2 g2
        refine ⟨⟨k1, k2, ?_, k3, k4, tc.1, fun j hj => ?_, by omega⟩, ⟨u_k76 f2, by rw [u_n76 f2]; have := tc.1; omega, by rw [u_n76 f2]; decide, tc.1, fun j hj => ?_, by decide⟩, ?_, g1⟩
        · rw [w2.i _ 1 (no2 _ 1 (by omega) (by omega))]
          exact l1
        · have t0 := tc.1
          rw [w2.i _ j (no2 _ j (by omega) (by omega)), l2 j (by omega)]
          exact tc.2.2 j hj
        · rw [b4, if_pos (by omega), Nat.add_sub_cancel_left]
          exact tm1.2.2 j hj
        · rw [b5, if_pos rfl]
      · simp only [if_neg q]
        obtain ⟨⟨x1, x2, x3, x4, x5, x6, x7, x8⟩, ⟨y1, y2, y3, y4, y5, y6⟩, r3, r4⟩ := rr i (by omega)
        obtain ⟨k1, k2, k3, k4⟩ := rt_s f2 (show i < 4 by omega)
        obtain ⟨n1, n2⟩ := l3 i (by omega) q
        refine ⟨⟨k1, k2, ?_, k3, k4, x6, fun j hj => ?_, x8⟩, ⟨u_k76 f2, by rw [u_n76 f2]; omega, by rw [u_n76 f2]; decide, y4, fun j hj => ?_, by decide⟩, ?_, r4⟩
        · rw [w2.i _ 1 (no2 _ 1 (by omega) (by omega)), n1]
          exact x3
        · rw [w2.i _ j (no2 _ j (by omega) (by omega)), n2]
          exact x7 j hj
        · rw [b4, if_neg (by omega), w1.i 76 _ rfl]
          exact y5 j hj
        · rw [b5, if_neg q, w1.i 77 i rfl]
          exact r3
    all_goals
      intro u j z
      simp only [rR, z, Bool.true_or, Bool.or_true]
theorem r_text {x : Int32} (r : Rel h) : SmI (D + 830) 4 108 [.ref 0, .int x] [.ref 74, .int x] h := by
  cases hx : dIn 2 x
  · have w0 : Sm s00 h h := Sm.rf _ h
    refine c_textN (D := D + 810) r.1 hx ⟨_, rfl, rfl, m_textN (D := D) r.1 hx (fun H2 w2 => ⟨rfl, fa_Rel r (Sm.rf _ h) r.2.2.2.2.1.1 w2⟩)⟩
  · obtain ⟨j, hj, rfl⟩ := dIn_get (by decide) hx
    rcases (show j = 0 ∨ j = 1 by omega) with q | q <;> subst q
    · exact r_text0 r
    · exact r_text1 r
theorem r_follow {x y z : Int32} (r : Rel h) : SmI (D + 830) 46 170 [.ref 0, .int x, .int y, .int z] [.ref 74, .int x, .int y, .int z] h := by
  obtain ⟨f, tp, ⟨m, LL, TT, m4, e1, e2, rr⟩, su, is, me, kp, n, d, ac, cl, wt, hd, fc, th, dn, wh, de, dy, xx, bf, p, cv, mv⟩ := id r
  have rc : ∀ i, i < m → XT h (66 + 2 * i) (67 + 2 * i) (LL i) (TT i) ∧ (ruP (TT i) (LL i)).1 = 0 := fun i hi => ⟨(rr i hi).1, (rr i hi).2.2.2⟩
  by_cases G : gFo m x y z
  · refine c_follow (D := D) (cv.dc f p) e1 m4 LL TT rc is.1 is.2 (fun q => absurd G q) (fun _ H1 w1 a1 a2 => ?_)
    have f1 : Fr H1 := w1.fr f (by decide)
    have rm : ∀ i, i < m → XM H1 76 (120 * i) (LL i) (TT i) ∧ hI H1 77 i = nI (LL i) ∧ (ruP (TT i) (LL i)).1 = 0 := fun i hi => by
      obtain ⟨_, ⟨y1, y2, y3, y4, y5, y6⟩, r3, r4⟩ := rr i hi
      exact ⟨⟨by rw [w1.1]; exact y1, by rw [w1.2.1]; exact y2, by rw [w1.2.1]; exact y3, y4, fun j hj => by rw [w1.i 76 _ rfl]; exact y5 j hj, y6⟩, (w1.i 77 i rfl).trans r3, r4⟩
    have mv1 : MV H1 n d ac cl wt hd fc th wh de dy xx bf := by
      have w := w1
      obtain ⟨m1, m2, m3, m4, m5, m6, m7, m8, m9, m10, m11⟩ := mv
      exact ⟨(w.i 74 20 rfl).trans (m1), fun j hj => (w.i 79 j rfl).trans (m2 j hj), fun j hj => (w.i 81 j rfl).trans (m3 j hj), fun j hj => (w.i 86 j rfl).trans (m4 j hj), fun j hj => (w.i 87 j rfl).trans (m5 j hj), fun j hj => (w.i 88 j rfl).trans (m6 j hj), (w.i 74 30 rfl).trans (m7), (w.i 74 44 rfl).trans (m8), (w.l 74 31 rfl).trans (m9), fun k hk => ⟨(w.i 91 k rfl).trans (m10 k hk).1, (w.i 92 k rfl).trans (m10 k hk).2.1, (w.i 93 k rfl).trans (m10 k hk).2.2⟩, fun j hj => (w.l 89 j rfl).trans (m11 j hj)⟩
    refine ⟨_, rfl, w1.1, Ev.mono (D := D + 821) (by omega) (m_follow (D := D) (mv1.dm f1 p) ((w1.i 74 7 rfl).trans e2) m4 LL TT rm (fun q => absurd G q) (fun _ H2 w2 => ⟨rfl, ?_, w2.2.2.2.1.trans w1.2.2.2.1, w2.2.2.2.2.1.trans w1.2.2.2.2.1⟩))⟩
    have w : Sm sFl h H2 := (w1.mn (fun u j z => by simp only [sFl, z, Bool.true_or])).tr (w2.mn (fun u j z => by simp only [sFl, z, Bool.or_true]))
    exact r.is (w.ag dj_fl) (w.fr f (by decide)) ⟨(w2.i 7 4 rfl).trans a1, fun i hi => by show okv (hI H2 10 i); rw [w2.i 10 i rfl]; exact a2 i hi⟩
  · have rm : ∀ i, i < m → XM h 76 (120 * i) (LL i) (TT i) ∧ hI h 77 i = nI (LL i) ∧ (ruP (TT i) (LL i)).1 = 0 := fun i hi => (rr i hi).2
    exact c_follow (D := D) (cv.dc f p) e1 m4 LL TT rc is.1 is.2 (fun _ => ⟨_, rfl, rfl, Ev.mono (D := D + 821) (by omega) (m_follow (D := D) (mv.dm f p) e2 m4 LL TT rm (fun _ => ⟨rfl, rd0 r⟩) (fun q => absurd q G))⟩) (fun q => absurd q G)
end
