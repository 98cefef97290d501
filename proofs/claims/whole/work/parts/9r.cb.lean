/-! Changes: act, undo, told, dawn, image, back. -/
def sAc (u j : Nat) : Bool := u == 18 || (u == 14 && j == 3) || u == 91 || u == 92 || u == 93 || (u == 74 && (j == 0 || j == 44))
def sUd (u j : Nat) : Bool := sUn u j || sMu u j
def sTd2 (u j : Nat) : Bool := sTo2 u j || sKp u j
def sDd (u j : Nat) : Bool := sDn u j || sD2 u j
def sTdF (u j : Nat) : Bool := sTo2 u j || s79 u j
def sBk (u j : Nat) : Bool := sBc u j || sMb u j
def sIm (u j : Nat) : Bool := sKc u j || (u == 0 && j == 10) || sMi u j
/-- all but the image -/
def rY (u j : Nat) : Bool := rT u j || rU u j || rS u j || rI u j || rE u j || rC u j || rM u j
theorem dj_ac : ∀ u j, rB u j = true → sAc u j = false := fun u j z => by
  cases q : sAc u j
  · rfl
  · simp only [rB, rA, rB, rX, rY, rT, rU, rS, rI, rE, rK, rKc, rKm, rC, rM, Bool.or_eq_true, Bool.and_eq_true, beq_iff_eq] at z
    simp only [sAc, Bool.or_eq_true, Bool.and_eq_true, beq_iff_eq] at q
    omega
theorem dj_ud : ∀ u j, rB u j = true → sUd u j = false := fun u j z => by
  cases q : sUd u j
  · rfl
  · simp only [rB, rA, rB, rX, rY, rT, rU, rS, rI, rE, rK, rKc, rKm, rC, rM, Bool.or_eq_true, Bool.and_eq_true, beq_iff_eq] at z
    simp only [sUd, sUn, sMu, Bool.or_eq_true, Bool.and_eq_true, beq_iff_eq] at q
    omega
theorem dj_td : ∀ u j, rB u j = true → sTd2 u j = false := fun u j z => by
  cases q : sTd2 u j
  · rfl
  · simp only [rB, rA, rB, rX, rY, rT, rU, rS, rI, rE, rK, rKc, rKm, rC, rM, Bool.or_eq_true, Bool.and_eq_true, beq_iff_eq] at z
    simp only [sTd2, sTo2, sAd, sKp, Bool.or_eq_true, Bool.and_eq_true, beq_iff_eq] at q
    omega
theorem dj_dd : ∀ u j, rB u j = true → sDd u j = false := fun u j z => by
  cases q : sDd u j
  · rfl
  · simp only [rB, rA, rB, rX, rY, rT, rU, rS, rI, rE, rK, rKc, rKm, rC, rM, Bool.or_eq_true, Bool.and_eq_true, beq_iff_eq] at z
    simp only [sDd, sDn, sDc, sAd, sD2, sD1, sKp, Bool.or_eq_true, Bool.and_eq_true, beq_iff_eq] at q
    omega
theorem dj_tf : ∀ u j, rB u j = true → sTdF u j = false := fun u j z => by
  cases q : sTdF u j
  · rfl
  · simp only [rB, rA, rB, rX, rY, rT, rU, rS, rI, rE, rK, rKc, rKm, rC, rM, Bool.or_eq_true, Bool.and_eq_true, beq_iff_eq] at z
    simp only [sTdF, sTo2, sAd, s79, Bool.or_eq_true, Bool.and_eq_true, beq_iff_eq] at q
    omega
theorem dj_bk : ∀ u j, rB u j = true → sBk u j = false := fun u j z => by
  cases q : sBk u j
  · rfl
  · simp only [rB, rA, rB, rX, rY, rT, rU, rS, rI, rE, rK, rKc, rKm, rC, rM, Bool.or_eq_true, Bool.and_eq_true, beq_iff_eq] at z
    simp only [sBk, sBc, sMb, Bool.or_eq_true, Bool.and_eq_true, beq_iff_eq] at q
    omega
theorem dj_im : ∀ u j, rY u j = true → sIm u j = false := fun u j z => by
  cases q : sIm u j
  · rfl
  · simp only [rY, rA, rB, rX, rY, rT, rU, rS, rI, rE, rK, rKc, rKm, rC, rM, Bool.or_eq_true, Bool.and_eq_true, beq_iff_eq] at z
    simp only [sIm, sKc, sMi, Bool.or_eq_true, Bool.and_eq_true, beq_iff_eq] at q
    omega
theorem bit_of2 : ∀ b, b < 64 → ∀ e, e < 6 → b.testBit e = false → popN (b ||| 2 ^ e) = popN b + 1 := by decide +kernel
theorem flN_congr {dy dy' : Nat → Nat} {y : Nat} : ∀ k, (∀ i, i < k → dy i = dy' i) → flN dy y k = flN dy' y k
  | 0, _ => rfl
  | k + 1, h => by rw [flN, flN, flN_congr k (fun i hi => h i (by omega)), h k (by omega)]
theorem flF1 {dy : Nat → Nat} {y : Nat} : ∀ k, flN (flA dy y dy k) y (flN dy y k) = flN dy y k
  | 0 => rfl
  | k + 1 => by
    have ih := @flF1 dy y k
    by_cases q : dy k = y
    · have c3 : flA dy y dy (k + 1) = flA dy y dy k := by funext i; rw [flA_s, if_pos q]
      rw [c3, flN, if_pos q, ih]
    · have cc : ∀ i, i < flN dy y k → flA dy y dy (k + 1) i = flA dy y dy k i := fun i hi => by rw [flA_s, if_neg q, if_neg (by omega)]
      have cd : flA dy y dy (k + 1) (flN dy y k) = dy k := by rw [flA_s, if_neg q, if_pos rfl]
      rw [show flN dy y (k + 1) = flN dy y k + 1 from by rw [flN, if_neg q], flN, cd, if_neg q, flN_congr _ cc, ih]
theorem flF2 {dy : Nat → Nat} {y z : Nat} (zy : z ≠ y) : ∀ k, flN (flA dy y dy k) z (flN dy y k) + k = flN dy y k + flN dy z k
  | 0 => rfl
  | k + 1 => by
    have ih := @flF2 dy y z zy k
    by_cases q : dy k = y
    · have c3 : flA dy y dy (k + 1) = flA dy y dy k := by funext i; rw [flA_s, if_pos q]
      rw [c3, show flN dy y (k + 1) = flN dy y k from by rw [flN, if_pos q], show flN dy z (k + 1) = flN dy z k + 1 from by rw [flN, if_neg (by omega)]]
      omega
    · have cc : ∀ i, i < flN dy y k → flA dy y dy (k + 1) i = flA dy y dy k i := fun i hi => by rw [flA_s, if_neg q, if_neg (by omega)]
      have cd : flA dy y dy (k + 1) (flN dy y k) = dy k := by rw [flA_s, if_neg q, if_pos rfl]
      have e1 : flN dy y (k + 1) = flN dy y k + 1 := by rw [flN, if_neg q]
      have e2 : flN (flA dy y dy (k + 1)) z (flN dy y k) = flN (flA dy y dy k) z (flN dy y k) := flN_congr _ cc
      rw [e1]
      by_cases w : dy k = z
      · rw [show flN (flA dy y dy (k + 1)) z (flN dy y k + 1) = flN (flA dy y dy (k + 1)) z (flN dy y k) from by rw [flN, cd, if_pos w], e2, show flN dy z (k + 1) = flN dy z k from by rw [flN, if_pos w]]
        omega
      · rw [show flN (flA dy y dy (k + 1)) z (flN dy y k + 1) = flN (flA dy y dy (k + 1)) z (flN dy y k) + 1 from by rw [flN, cd, if_neg w], e2, show flN dy z (k + 1) = flN dy z k + 1 from by rw [flN, if_neg w]]
        omega
theorem dwR_lt {cl wt : Nat → Nat} {n : Nat} : ∀ r (x : Int64) φ (δ : Nat → Bool) ag, (∀ i, φ i < 6) → ∀ i, (dwR cl wt n r x φ δ ag).2.1 i < 6
  | 0, x, φ, δ, ag, h, i => h i
  | r + 1, x, φ, δ, ag, h, i => by
    rw [dwR]
    cases dwL cl n φ δ with
    | none => exact h i
    | some w =>
      refine dwR_lt r _ _ _ _ (fun i => ?_) i
      show (if i = cl (6 * w + φ w) - 40 then drF wt (cl (6 * w + φ w) - 40) x else φ i) < 6
      split
      · exact drF_lt _ _ _
      · exact h i
theorem dwA_lt {cl wt : Nat → Nat} {n : Nat} {x : Int64} (i : Nat) : (dwA cl wt n x).2.1 i < 6 := dwR_lt 3 _ _ _ _ (fun i => drF_lt _ _ _) i
section
variable {D : Nat} {h h1 h2 : Hp}
theorem Rel.kp (r : Rel h) (a : Ag rY h h1) (f : Fr h1) (k : KPr h1) : Rel h1 := by
  obtain ⟨r1, r2, r3, r4, r5, r6, r7, r8⟩ := r
  refine ⟨f, r2.ag (a.mono ?_), r3.ag (a.mono ?_), r4.ag (a.mono ?_), r5.ag (a.mono ?_), r6.ag (a.mono ?_), k, r8.ag (a.mono ?_) (a.mono ?_)⟩
  all_goals
    intro u j z
    simp only [rY, z, Bool.true_or, Bool.or_true]
set_option maxHeartbeats 1000000 in
theorem PI_act {n d ac : Nat} {cl wt hd fc dn wh de dy : Nat → Nat} (p : PI n d ac cl wt hd fc dn wh de dy) {a e y : Nat} (ha : a < 6) (he : e < 6) (hy : y < 40) (hc : ac < 60) (hb : (dn (6 * y + a)).testBit e = false) : PI n d (ac + 1) cl wt hd fc (fun j => if j = 6 * y + a then dn j ||| 2 ^ e else dn j) (fun k => if k = ac then a else wh k) (fun k => if k = ac then e else de k) (fun k => if k = ac then y else dy k) := by
  obtain ⟨n5, d40, ac60, hcl, hwt, hs, hh, hf, hdn, hak, lk, fl⟩ := p
  have o1 := or_of _ (hdn (6 * y + a) (by omega)) e he
  refine ⟨n5, d40, by omega, hcl, hwt, hs, hh, hf, fun j hj => ?_, fun k hk => ?_, fun z q i hz hq hi => ?_, fun z hz => ?_⟩
  · show (if j = 6 * y + a then dn j ||| 2 ^ e else dn j) < 64
    by_cases w : j = 6 * y + a
    · rw [if_pos w, w]; exact o1.2.1
    · rw [if_neg w]; exact hdn j hj
  · show (if k = ac then a else wh k) < 6 ∧ (if k = ac then e else de k) < 6 ∧ (if k = ac then y else dy k) < 40
    by_cases w : k = ac
    · simp only [if_pos w]; exact ⟨ha, he, hy⟩
    · simp only [if_neg w]; exact hak k (by omega)
  · rw [didL, didL_congr ac (wh' := wh) (de' := de) (dy' := dy) (fun i hi => by simp only [if_neg (show ¬ i = ac by omega), and_self]), lk z q i hz hq hi]
    simp only [if_true]
    by_cases w : 6 * z + q = 6 * y + a
    · have e1 : z = y := by omega
      have e2 : q = a := by omega
      subst e1
      subst e2
      rw [if_pos rfl, o1.2.2 i hi]
      by_cases u : i = e
      · rw [decide_eq_true ⟨rfl, u.symm, rfl⟩, decide_eq_true u, Bool.or_true, Bool.true_or]
      · rw [decide_eq_false (fun y => u y.2.1.symm), decide_eq_false u, Bool.or_false, Bool.false_or]
    · rw [if_neg w, decide_eq_false (fun u => w (by rw [u.1, u.2.2])), Bool.or_false]
  · have f1 : flN (fun k => if k = ac then y else dy k) z ac = flN dy z ac := flN_congr ac (fun i hi => if_neg (by omega))
    have f2 := fl z hz
    rw [flN, f1]
    simp only [if_true]
    by_cases w : y = z
    · subst w
      rw [if_pos rfl]
      have g1 : dpS (fun j => if j = 6 * y + a then dn j ||| 2 ^ e else dn j) y 6 = sm 6 (va_up (fun i => popN (dn (6 * y + i))) a (popN (dn (6 * y + a) ||| 2 ^ e))) := sm_congr (fun i hi => by
        rw [vu_at]
        by_cases v : i = a
        · rw [if_pos v, v]
          show popN (if 6 * y + a = 6 * y + a then dn (6 * y + a) ||| 2 ^ e else dn (6 * y + a)) = _
          rw [if_pos rfl]
        · rw [if_neg v]
          show popN (if 6 * y + i = 6 * y + a then dn (6 * y + i) ||| 2 ^ e else dn (6 * y + i)) = _
          rw [if_neg (by omega)])
      have g2 := @sm_vu a (popN (dn (6 * y + a) ||| 2 ^ e)) (fun i => popN (dn (6 * y + i))) 6 ha
      have g3 := bit_of2 _ (hdn (6 * y + a) (by omega)) e he hb
      have g4 : dpS dn y 6 = sm 6 (fun i => popN (dn (6 * y + i))) := rfl
      rw [g1]
      have g5 : (fun i => popN (dn (6 * y + i))) a = popN (dn (6 * y + a)) := rfl
      omega
    · rw [if_neg w]
      have g1 : dpS (fun j => if j = 6 * y + a then dn j ||| 2 ^ e else dn j) z 6 = dpS dn z 6 := sm_congr (fun i hi => by
        show popN (if 6 * z + i = 6 * y + a then dn (6 * z + i) ||| 2 ^ e else dn (6 * z + i)) = popN (dn (6 * z + i))
        rw [if_neg (by omega)])
      rw [g1]
      omega
theorem r_act {x y z : Int32} (r : Rel h) : SmI (D + 830) 35 161 [.ref 0, .int x, .int y, .int z] [.ref 74, .int x, .int y, .int z] h := by
  obtain ⟨f, tp, ru, su, is, me, kp, n, d, ac, cl, wt, hd, fc, th, dn, wh, de, dy, xx, bf, p, cv, mv⟩ := id r
  by_cases G : gAc d ac dn x y z
  · refine c_act (D := D + 820) (cv.dc f p) (cv.ca p) cv.2.2.2.2.2.2.1 p.2.2.1 (fun q => absurd G q) (fun _ => ?_)
    obtain ⟨H, hH⟩ : ∃ H, sI (sI h 18 (6 * tN z + tN x) (nI (dn (6 * tN z + tN x) ||| 2 ^ tN y))) 14 3 (nI (ac + 1)) = H := ⟨_, rfl⟩
    rw [hH]
    have w1 : Sm sAc h H := by rw [← hH]; exact ((Sm.rf _ h).wI (a := 18) _ rfl).wI (a := 14) _ rfl
    have f1 : Fr H := w1.fr f (by decide)
    have mv1 : MV H n d ac cl wt hd fc th wh de dy xx bf := by
      have w : Sm (fun u j => u == 18 || (u == 14 && j == 3)) h H := by rw [← hH]; exact ((Sm.rf _ h).wI (a := 18) _ rfl).wI (a := 14) _ rfl
      obtain ⟨m1, m2, m3, m4, m5, m6, m7, m8, m9, m10, m11⟩ := mv
      exact ⟨(w.i 74 20 rfl).trans (m1), fun j hj => (w.i 79 j rfl).trans (m2 j hj), fun j hj => (w.i 81 j rfl).trans (m3 j hj), fun j hj => (w.i 86 j rfl).trans (m4 j hj), fun j hj => (w.i 87 j rfl).trans (m5 j hj), fun j hj => (w.i 88 j rfl).trans (m6 j hj), (w.i 74 30 rfl).trans (m7), (w.i 74 44 rfl).trans (m8), (w.l 74 31 rfl).trans (m9), fun k hk => ⟨(w.i 91 k rfl).trans (m10 k hk).1, (w.i 92 k rfl).trans (m10 k hk).2.1, (w.i 93 k rfl).trans (m10 k hk).2.2⟩, fun j hj => (w.l 89 j rfl).trans (m11 j hj)⟩
    refine ⟨_, rfl, w1.1, m_act (D := D + 820) (mv1.dm f1 p) (mv1.ma p) p.2.2.2.2.2.2.2.2.2.2.1 (fun q => absurd G q) (fun _ => ⟨rfl, ?_, w1.2.2.2.1, w1.2.2.2.2.1⟩)⟩
    have pp := p
    obtain ⟨n5, d40, ac60, hcl, hwt, hs, hh, hf, hdn, hak, lk, fl⟩ := p
    obtain ⟨gx, gy, gz, g4, g5⟩ := G
    obtain ⟨jx, bx, rfl⟩ := dIn_get (by decide) gx
    obtain ⟨jy, by', rfl⟩ := dIn_get (by decide) gy
    obtain ⟨jz, bz, rfl⟩ := dIn_get (by omega) gz
    rw [tN_nI (by omega), tN_nI (by omega), tN_nI (by omega)] at g5 hH
    have w : Sm sAc h (sI (sI (sI (sI (sI H 74 0 (nI 0)) 91 ac (nI jx)) 92 ac (nI jy)) 93 ac (nI jz)) 74 44 (nI (ac + 1))) := ((((w1.wI (a := 74) _ rfl).wI (a := 91) _ rfl).wI (a := 92) _ rfl).wI (a := 93) _ rfl).wI (a := 74) _ rfl
    obtain ⟨c1, c2, c3, c4, c5, c6, c7, c8, c9, c10, c11, c12⟩ := cv
    obtain ⟨m1, m2, m3, m4, m5, m6, m7, m8, m9, m10, m11⟩ := mv
    have e18 : ∀ j, hI H 18 j = if j = 6 * jz + jx then nI (dn (6 * jz + jx) ||| 2 ^ jy) else hI h 18 j := fun j => by
      rw [← hH]
      simp only [hK_sI, hN_sI, hI_sI, hL_sI, hR_sI, hZ_sI, hC_sI, hS_sI, hK_sL, hN_sL, hI_sL, hL_sL, hR_sL, hZ_sL, hC_sL, hS_sL, hK_sR, hN_sR, hI_sR, hL_sR, hR_sR, hZ_sR, hC_sR, hS_sR, hK_sA, hN_sA, hI_sA, hL_sA, hR_sA, hK_sLA, hN_sLA, hI_sLA, hL_sLA, hR_sLA, up2_at, vu_at]
      by_cases q : j = 6 * jz + jx <;> simp [q]
    have e143 : hI H 14 3 = nI (ac + 1) := by rw [← hH]; simp only [hK_sI, hN_sI, hI_sI, hL_sI, hR_sI, hZ_sI, hC_sI, hS_sI, hK_sL, hN_sL, hI_sL, hL_sL, hR_sL, hZ_sL, hC_sL, hS_sL, hK_sR, hN_sR, hI_sR, hL_sR, hR_sR, hZ_sR, hC_sR, hS_sR, hK_sA, hN_sA, hI_sA, hL_sA, hR_sA, hK_sLA, hN_sLA, hI_sLA, hL_sLA, hR_sLA, up2_at, vu_at]; simp
    refine r.vw (w.ag dj_ac) (w.fr f (by decide)) ⟨n, d, ac + 1, cl, wt, hd, fc, th, fun j => if j = 6 * jz + jx then dn j ||| 2 ^ jy else dn j, fun k => if k = ac then jx else wh k, fun k => if k = ac then jy else de k, fun k => if k = ac then jz else dy k, xx, bf, PI_act pp bx by' (by omega) g4 g5, ⟨(w.i 11 0 rfl).trans (c1), fun j hj => (w.i 12 j rfl).trans (c2 j hj), fun j hj => (w.i 13 j rfl).trans (c3 j hj), (w.l 14 0 rfl).trans (c4), fun z => (w.i 14 1 rfl).trans (c5 z), (w.i 14 2 rfl).trans (c6), ?_, fun j hj => (w.i 15 j rfl).trans (c8 j hj), fun j hj => (w.i 16 j rfl).trans (c9 j hj), fun j hj => (w.i 17 j rfl).trans (c10 j hj), fun j hj => ?_, fun j hj => (w.l 19 j rfl).trans (c12 j hj)⟩, ⟨(w.i 74 20 rfl).trans (m1), fun j hj => (w.i 79 j rfl).trans (m2 j hj), fun j hj => (w.i 81 j rfl).trans (m3 j hj), fun j hj => (w.i 86 j rfl).trans (m4 j hj), fun j hj => (w.i 87 j rfl).trans (m5 j hj), fun j hj => (w.i 88 j rfl).trans (m6 j hj), (w.i 74 30 rfl).trans (m7), ?_, (w.l 74 31 rfl).trans (m9), fun k hk => ?_, fun j hj => (w.l 89 j rfl).trans (m11 j hj)⟩⟩
    · simp only [hK_sI, hN_sI, hI_sI, hL_sI, hR_sI, hZ_sI, hC_sI, hS_sI, hK_sL, hN_sL, hI_sL, hL_sL, hR_sL, hZ_sL, hC_sL, hS_sL, hK_sR, hN_sR, hI_sR, hL_sR, hR_sR, hZ_sR, hC_sR, hS_sR, hK_sA, hN_sA, hI_sA, hL_sA, hR_sA, hK_sLA, hN_sLA, hI_sLA, hL_sLA, hR_sLA, up2_at, vu_at]
      simpa using e143
    · show _ = nI (if j = 6 * jz + jx then dn j ||| 2 ^ jy else dn j)
      rw [show hI (sI (sI (sI (sI (sI H 74 0 (nI 0)) 91 ac (nI jx)) 92 ac (nI jy)) 93 ac (nI jz)) 74 44 (nI (ac + 1))) 18 j = hI H 18 j from by simp only [hK_sI, hN_sI, hI_sI, hL_sI, hR_sI, hZ_sI, hC_sI, hS_sI, hK_sL, hN_sL, hI_sL, hL_sL, hR_sL, hZ_sL, hC_sL, hS_sL, hK_sR, hN_sR, hI_sR, hL_sR, hR_sR, hZ_sR, hC_sR, hS_sR, hK_sA, hN_sA, hI_sA, hL_sA, hR_sA, hK_sLA, hN_sLA, hI_sLA, hL_sLA, hR_sLA, up2_at, vu_at]; simp, e18]
      by_cases q : j = 6 * jz + jx
      · rw [if_pos q, if_pos q, q]
      · rw [if_neg q, if_neg q, c11 j hj]
    · simp only [hK_sI, hN_sI, hI_sI, hL_sI, hR_sI, hZ_sI, hC_sI, hS_sI, hK_sL, hN_sL, hI_sL, hL_sL, hR_sL, hZ_sL, hC_sL, hS_sL, hK_sR, hN_sR, hI_sR, hL_sR, hR_sR, hZ_sR, hC_sR, hS_sR, hK_sA, hN_sA, hI_sA, hL_sA, hR_sA, hK_sLA, hN_sLA, hI_sLA, hL_sLA, hR_sLA, up2_at, vu_at]
      simp
    · show _ = nI (if k = ac then jx else wh k) ∧ _ = nI (if k = ac then jy else de k) ∧ _ = nI (if k = ac then jz else dy k)
      have q87 := w1.i 91 k
      by_cases q : k = ac
      · simp only [if_pos q, hK_sI, hN_sI, hI_sI, hL_sI, hR_sI, hZ_sI, hC_sI, hS_sI, hK_sL, hN_sL, hI_sL, hL_sL, hR_sL, hZ_sL, hC_sL, hS_sL, hK_sR, hN_sR, hI_sR, hL_sR, hR_sR, hZ_sR, hC_sR, hS_sR, hK_sA, hN_sA, hI_sA, hL_sA, hR_sA, hK_sLA, hN_sLA, hI_sLA, hL_sLA, hR_sLA, up2_at, vu_at]
        simp [q]
      · obtain ⟨a1, a2, a3⟩ := mv1.2.2.2.2.2.2.2.2.2.1 k (by omega)
        simp only [if_neg q, hK_sI, hN_sI, hI_sI, hL_sI, hR_sI, hZ_sI, hC_sI, hS_sI, hK_sL, hN_sL, hI_sL, hL_sL, hR_sL, hZ_sL, hC_sL, hS_sL, hK_sR, hN_sR, hI_sR, hL_sR, hR_sR, hZ_sR, hC_sR, hS_sR, hK_sA, hN_sA, hI_sA, hL_sA, hR_sA, hK_sLA, hN_sLA, hI_sLA, hL_sLA, hR_sLA, up2_at, vu_at]
        simp [q, a1, a2, a3]
  · exact c_act (D := D + 820) (cv.dc f p) (cv.ca p) cv.2.2.2.2.2.2.1 p.2.2.1 (fun _ => ⟨_, rfl, rfl, m_act (D := D + 820) (mv.dm f p) (mv.ma p) p.2.2.2.2.2.2.2.2.2.2.1 (fun _ => ⟨rfl, rd0 r⟩) (fun q => absurd q G)⟩) (fun q => absurd q G)
theorem popN_0 : popN 0 = 0 := by decide
theorem PI_undo {n d ac : Nat} {cl wt hd fc dn wh de dy : Nat → Nat} (p : PI n d ac cl wt hd fc dn wh de dy) {y : Nat} (hy : y < 40) (hd' : y ≤ d) (hk : ∀ k, k < flN dy y ac → flA dy y wh ac k < 6 ∧ flA dy y de ac k < 6 ∧ flA dy y dy ac k < 40) : PI n y (ac - dpS dn y 6) cl wt hd fc (fun j => if 6 * y ≤ j ∧ j < 6 * y + 6 then 0 else dn j) (flA dy y wh ac) (flA dy y de ac) (flA dy y dy ac) := by
  obtain ⟨n5, d40, ac60, hcl, hwt, hs, hh, hf, hdn, hak, lk, fl⟩ := p
  have e0 := fl y hy
  have e1 : ac - dpS dn y 6 = flN dy y ac := by omega
  rw [e1]
  refine ⟨n5, by omega, by omega, hcl, hwt, hs, hh, hf, fun j hj => ?_, hk, fun z q i hz hq hi => ?_, fun z hz => ?_⟩
  · show (if 6 * y ≤ j ∧ j < 6 * y + 6 then 0 else dn j) < 64
    split
    · decide
    · exact hdn j hj
  · rw [didL_fl]
    show _ = (if 6 * y ≤ 6 * z + q ∧ 6 * z + q < 6 * y + 6 then 0 else dn (6 * z + q)).testBit i
    by_cases w : z = y
    · rw [if_pos w, if_pos (by omega), Nat.zero_testBit]
    · rw [if_neg w, if_neg (by omega)]
      exact lk z q i hz hq hi
  · by_cases w : z = y
    · subst w
      rw [flF1, show dpS (fun j => if 6 * z ≤ j ∧ j < 6 * z + 6 then 0 else dn j) z 6 = 0 from sm_z (fun i hi => by
        show popN (if 6 * z ≤ 6 * z + i ∧ 6 * z + i < 6 * z + 6 then 0 else dn (6 * z + i)) = 0
        rw [if_pos (by omega)]
        exact popN_0), Nat.add_zero]
    · have g1 := flF2 (dy := dy) w ac
      have g2 := fl z hz
      rw [show dpS (fun j => if 6 * y ≤ j ∧ j < 6 * y + 6 then 0 else dn j) z 6 = dpS dn z 6 from sm_congr (fun i hi => by
        show popN (if 6 * y ≤ 6 * z + i ∧ 6 * z + i < 6 * y + 6 then 0 else dn (6 * z + i)) = popN (dn (6 * z + i))
        rw [if_neg (by omega)])]
      omega
theorem r_undo (r : Rel h) : SmI (D + 830) 15 134 [.ref 0] [.ref 74] h := by
  obtain ⟨f, tp, ru, su, is, me, kp, n, d, ac, cl, wt, hd, fc, th, dn, wh, de, dy, xx, bf, p, cv, mv⟩ := id r
  have hsum : 0 < d → dpS dn (d - 1) 6 ≤ ac := fun q => by
    have := p.2.2.2.2.2.2.2.2.2.2.2 (d - 1) (by have := p.2.1; omega)
    omega
  refine c_undo (D := D + 820) f (cv.ca p) p.2.1 cv.2.2.2.2.2.1 cv.2.2.2.2.2.2.1 p.2.2.1 hsum (fun q => ⟨_, rfl, rfl, m_undo (D := D + 820) f (mv.ma p) p.2.1 mv.2.2.2.2.2.2.1 (fun _ => ⟨rfl, rd0 r⟩) (fun z => by omega)⟩) (fun q H1 w1 a1 a2 a3 a4 => ?_)
  have f1 : Fr H1 := w1.fr f (by decide)
  have ma1 : MA H1 ac wh de dy := by
    obtain ⟨b1, b2, b3⟩ := mv.ma p
    exact ⟨b1, (w1.i 74 44 rfl).trans b2, fun k hk => ⟨⟨(w1.i 91 k rfl).trans (b3 k hk).1.1, (w1.i 92 k rfl).trans (b3 k hk).1.2.1, (w1.i 93 k rfl).trans (b3 k hk).1.2.2⟩, (b3 k hk).2⟩⟩
  refine ⟨_, rfl, w1.1, m_undo (D := D + 820) f1 ma1 p.2.1 ((w1.i 74 30 rfl).trans mv.2.2.2.2.2.2.1) (fun z => by omega) (fun _ H2 w2 b1 b2 b3 => ⟨rfl, ?_, w2.2.2.2.1.trans w1.2.2.2.1, w2.2.2.2.2.1.trans w1.2.2.2.2.1⟩)⟩
  have w : Sm sUd h H2 := (w1.mn (fun u j z => by simp only [sUd, z, Bool.true_or])).tr (w2.mn (fun u j z => by simp only [sUd, z, Bool.or_true]))
  have pp := p
  obtain ⟨n5, d40, ac60, hcl, hwt, hs, hh, hf, hdn, hak, lk, fl⟩ := p
  obtain ⟨c1, c2, c3, c4, c5, c6, c7, c8, c9, c10, c11, c12⟩ := cv
  obtain ⟨m1, m2, m3, m4, m5, m6, m7, m8, m9, m10, m11⟩ := mv
  have e0 := fl (d - 1) (by omega)
  have e1 : ac - dpS dn (d - 1) 6 = flN dy (d - 1) ac := by omega
  refine r.vw (w.ag dj_ud) (w.fr f (by decide)) ⟨n, d - 1, ac - dpS dn (d - 1) 6, cl, wt, hd, fc, th, fun j => if 6 * (d - 1) ≤ j ∧ j < 6 * (d - 1) + 6 then 0 else dn j, flA dy (d - 1) wh ac, flA dy (d - 1) de ac, flA dy (d - 1) dy ac, bf (d - 1), bf, PI_undo pp (by omega) (by omega) (fun k hk => (b3.2.2 k hk).2), ⟨(w.i 11 0 rfl).trans (c1), fun j hj => (w.i 12 j rfl).trans (c2 j hj), fun j hj => (w.i 13 j rfl).trans (c3 j hj), ?_, fun z => (w.i 14 1 rfl).trans (c5 (by omega)), (w2.i 14 2 rfl).trans a1, (w2.i 14 3 rfl).trans a3, fun j hj => (w.i 15 j rfl).trans (c8 j hj), fun j hj => (w.i 16 j rfl).trans (c9 j hj), fun j hj => (w.i 17 j rfl).trans (c10 j hj), fun j hj => ?_, fun j hj => (w.l 19 j rfl).trans (c12 j hj)⟩, ⟨(w.i 74 20 rfl).trans (m1), fun j hj => (w.i 79 j rfl).trans (m2 j hj), fun j hj => (w.i 81 j rfl).trans (m3 j hj), fun j hj => (w.i 86 j rfl).trans (m4 j hj), fun j hj => (w.i 87 j rfl).trans (m5 j hj), fun j hj => (w.i 88 j rfl).trans (m6 j hj), b1, ?_, ?_, fun k hk => (b3.2.2 k (by omega)).1, fun j hj => (w.l 89 j rfl).trans (m11 j hj)⟩⟩
  · rw [w2.l 14 0 rfl, a2]
    exact c12 _ (by omega)
  · show _ = nI (if 6 * (d - 1) ≤ j ∧ j < 6 * (d - 1) + 6 then 0 else dn j)
    rw [w2.i 18 j rfl, a4 j hj]
    by_cases z : 6 * (d - 1) ≤ j ∧ j < 6 * (d - 1) + 6
    · rw [if_pos z, if_pos z]
    · rw [if_neg z, if_neg z, c11 j hj]
  · rw [e1]
    exact b3.2.1
  · rw [b2, w1.l 89 _ rfl]
    exact m11 _ (by omega)
theorem PI_keep {n d ac : Nat} {cl wt hd fc dn wh de dy φ ζ : Nat → Nat} (p : PI n d ac cl wt hd fc dn wh de dy) (h4 : d < 40) (hφ : ∀ i, i < n → φ i < 6) (hζ : ∀ i, i < n → ζ i < 40) : PI n (d + 1) ac cl wt (fun j => if 5 * d ≤ j ∧ j < 5 * d + n then ζ (j - 5 * d) else hd j) (fun j => if 5 * d ≤ j ∧ j < 5 * d + n then φ (j - 5 * d) else fc j) dn wh de dy := by
  obtain ⟨n5, d40, ac60, hcl, hwt, hs, hh, hf, hdn, hak, lk, fl⟩ := p
  refine ⟨n5, by omega, ac60, hcl, hwt, hs, fun j hj => ?_, fun j hj => ?_, hdn, hak, lk, fl⟩
  · show (if 5 * d ≤ j ∧ j < 5 * d + n then ζ (j - 5 * d) else hd j) < 40
    by_cases q : 5 * d ≤ j ∧ j < 5 * d + n
    · rw [if_pos q]; exact hζ _ (by omega)
    · rw [if_neg q]; exact hh j hj
  · show (if 5 * d ≤ j ∧ j < 5 * d + n then φ (j - 5 * d) else fc j) < 6
    by_cases q : 5 * d ≤ j ∧ j < 5 * d + n
    · rw [if_pos q]; exact hφ _ (by omega)
    · rw [if_neg q]; exact hf j hj
/-- a day kept on both sides -/
theorem VW_keep {S S' : Nat → Nat → Bool} {n d ac : Nat} {cl wt hd fc th dn wh de dy φ ζ : Nat → Nat} {xx x' x0 : Int64} {bf : Nat → Int64} {ag : Nat} (p : PI n d ac cl wt hd fc dn wh de dy) (cv : CV h 11 12 13 14 15 16 17 18 19 n d ac cl wt hd fc th dn xx bf) (mv : MV h n d ac cl wt hd fc th wh de dy xx bf) (h4 : d < 40) (hφ : ∀ i, i < n → φ i < 6) (hζ : ∀ i, i < n → ζ i < 40) (w1 : Sm S h h1) (w2 : Sm S' h1 h2) (s1 : ∀ u j, S u j = true → sDn u j = true) (s2 : ∀ u j, S' u j = true → sD2 u j = true) (a1 : hI h1 14 1 = nI n) (a2 : hI h1 14 2 = nI (d + 1)) (a3 : hL h1 14 0 = x') (a4 : kpH h h1 15 16 17 19 n d φ ζ (nI ag) x0) (b1 : hI h2 74 30 = nI (d + 1)) (b2 : hL h2 74 31 = x') (b4 : kpH h1 h2 87 86 88 89 n d φ ζ (nI ag) x0) : VWr h2 := by
  have u1 := w1.mn s1
  have u2 := w2.mn s2
  have w : Sm sDd h h2 := (u1.mn (fun u j z => by simp only [sDd, z, Bool.true_or])).tr (u2.mn (fun u j z => by simp only [sDd, z, Bool.or_true]))
  obtain ⟨c1, c2, c3, c4, c5, c6, c7, c8, c9, c10, c11, c12⟩ := cv
  obtain ⟨m1, m2, m3, m4, m5, m6, m7, m8, m9, m10, m11⟩ := mv
  obtain ⟨k1, k2, k3, k4⟩ := a4
  obtain ⟨l1, l2, l3, l4⟩ := b4
  refine ⟨n, d + 1, ac, cl, wt, fun j => if 5 * d ≤ j ∧ j < 5 * d + n then ζ (j - 5 * d) else hd j, fun j => if 5 * d ≤ j ∧ j < 5 * d + n then φ (j - 5 * d) else fc j, fun j => if j = d then ag else th j, dn, wh, de, dy, x', fun j => if j = d then x0 else bf j, PI_keep p h4 hφ hζ, ⟨(w.i 11 0 rfl).trans (c1), fun j hj => (w.i 12 j rfl).trans (c2 j hj), fun j hj => (w.i 13 j rfl).trans (c3 j hj), (u2.l 14 0 rfl).trans a3, fun z => (u2.i 14 1 rfl).trans a1, (u2.i 14 2 rfl).trans a2, (w.i 14 3 rfl).trans (c7), fun j hj => ?_, fun j hj => ?_, fun j hj => ?_, fun j hj => (w.i 18 j rfl).trans (c11 j hj), fun j hj => ?_⟩, ⟨(w.i 74 20 rfl).trans (m1), fun j hj => (w.i 79 j rfl).trans (m2 j hj), fun j hj => (w.i 81 j rfl).trans (m3 j hj), fun j hj => ?_, fun j hj => ?_, fun j hj => ?_, b1, (w.i 74 44 rfl).trans (m8), b2, fun k hk => ⟨(w.i 91 k rfl).trans (m10 k hk).1, (w.i 92 k rfl).trans (m10 k hk).2.1, (w.i 93 k rfl).trans (m10 k hk).2.2⟩, fun j hj => ?_⟩⟩
  · show _ = nI (if 5 * d ≤ j ∧ j < 5 * d + n then φ (j - 5 * d) else fc j)
    rw [u2.i 15 j rfl, k1 j]
    by_cases q : 5 * d ≤ j ∧ j < 5 * d + n
    · rw [if_pos q, if_pos q]
    · rw [if_neg q, if_neg q, c8 j hj]
  · show _ = nI (if 5 * d ≤ j ∧ j < 5 * d + n then ζ (j - 5 * d) else hd j)
    rw [u2.i 16 j rfl, k2 j]
    by_cases q : 5 * d ≤ j ∧ j < 5 * d + n
    · rw [if_pos q, if_pos q]
    · rw [if_neg q, if_neg q, c9 j hj]
  · show _ = nI (if j = d then ag else th j)
    rw [u2.i 17 j rfl, k3 j]
    by_cases q : j = d
    · rw [if_pos q, if_pos q]
    · rw [if_neg q, if_neg q, c10 j hj]
  · show _ = if j = d then x0 else bf j
    rw [u2.l 19 j rfl, k4 j]
    by_cases q : j = d
    · rw [if_pos q, if_pos q]
    · rw [if_neg q, if_neg q, c12 j hj]
  · show _ = nI (if 5 * d ≤ j ∧ j < 5 * d + n then ζ (j - 5 * d) else hd j)
    rw [l2 j]
    by_cases q : 5 * d ≤ j ∧ j < 5 * d + n
    · rw [if_pos q, if_pos q]
    · rw [if_neg q, if_neg q, u1.i 86 j rfl, m4 j hj]
  · show _ = nI (if 5 * d ≤ j ∧ j < 5 * d + n then φ (j - 5 * d) else fc j)
    rw [l1 j]
    by_cases q : 5 * d ≤ j ∧ j < 5 * d + n
    · rw [if_pos q, if_pos q]
    · rw [if_neg q, if_neg q, u1.i 87 j rfl, m5 j hj]
  · show _ = nI (if j = d then ag else th j)
    rw [l3 j]
    by_cases q : j = d
    · rw [if_pos q, if_pos q]
    · rw [if_neg q, if_neg q, u1.i 88 j rfl, m6 j hj]
  · show _ = if j = d then x0 else bf j
    rw [l4 j]
    by_cases q : j = d
    · rw [if_pos q, if_pos q]
    · rw [if_neg q, if_neg q, u1.l 89 j rfl, m11 j hj]
theorem r_told {x : Int32} (r : Rel h) : SmI (D + 830) 14 133 [.ref 0, .int x] [.ref 74, .int x] h := by
  obtain ⟨f, tp, ru, su, is, me, kp, n, d, ac, cl, wt, hd, fc, th, dn, wh, de, dy, xx, bf, p, cv, mv⟩ := id r
  have co := cv.cok f p
  have mo := mv.mok f me p
  obtain ⟨⟨_, n5, hn, hc, hw, _⟩, hy40, hs⟩ := co
  obtain ⟨⟨_, _, hn', hc', hw', _⟩, _⟩ := mo
  have d40 := p.2.1
  have hyC := ys_eq (n := n) n5 d40 cv.2.2.2.2.2.2.2.2.1
  have hyM := ys_eq (n := n) n5 d40 mv.2.2.2.1
  refine c_told (D := D + 820) (ys := ysD d hd) f n5 hn hc cv.2.2.2.2.2.1 d40 hyC hy40 (fun g H1 w1 a1 a2 a3 a4 a5 a6 => ?_) (fun g H1 w1 a1 a2 a4 => ?_)
  · have f1 : Fr H1 := w1.fr f (by decide)
    refine ⟨_, rfl, w1.1, m_told (D := D + 820) (ys := ysD d hd) f1 n5 ((w1.i 74 20 rfl).trans hn') (fun j hj => by rw [w1.i 79 j rfl]; exact hc' j hj) ((w1.i 74 30 rfl).trans mv.2.2.2.2.2.2.1) d40 (fun i hi => by rw [w1.i 86 _ rfl]; exact hyM i hi) (fun _ H2 w2 => ⟨rfl, ?_, w2.2.2.2.1.trans w1.2.2.2.1, w2.2.2.2.2.1.trans w1.2.2.2.2.1⟩) (fun z => absurd z g)⟩
    have w : Sm sTdF h H2 := (w1.mn (fun u j z => by simp only [sTdF, z, Bool.true_or])).tr (w2.mn (fun u j z => by simp only [sTdF, z, Bool.or_true]))
    obtain ⟨c1, c2, c3, c4, c5, c6, c7, c8, c9, c10, c11, c12⟩ := cv
    obtain ⟨m1, m2, m3, m4, m5, m6, m7, m8, m9, m10, m11⟩ := mv
    refine r.vw (w.ag dj_tf) (w.fr f (by decide)) ⟨n, d, ac, cl, wt, hd, fc, th, dn, wh, de, dy, xx, bf, p, ⟨(w.i 11 0 rfl).trans (c1), fun j hj => (w.i 12 j rfl).trans (c2 j hj), fun j hj => (w.i 13 j rfl).trans (c3 j hj), (w.l 14 0 rfl).trans (c4), fun z => ((w2.i 14 1 rfl).trans a1).trans (c5 z), ((w2.i 14 2 rfl).trans a2).trans c6, (w.i 14 3 rfl).trans (c7), fun j hj => ((w2.i 15 j rfl).trans (a3 j)).trans (c8 j hj), fun j hj => ((w2.i 16 j rfl).trans (a4 j)).trans (c9 j hj), fun j hj => ((w2.i 17 j rfl).trans (a5 j)).trans (c10 j hj), fun j hj => (w.i 18 j rfl).trans (c11 j hj), fun j hj => ((w2.l 19 j rfl).trans (a6 j)).trans (c12 j hj)⟩, ⟨(w.i 74 20 rfl).trans (m1), fun j hj => (w.i 79 j rfl).trans (m2 j hj), fun j hj => (w.i 81 j rfl).trans (m3 j hj), fun j hj => (w.i 86 j rfl).trans (m4 j hj), fun j hj => (w.i 87 j rfl).trans (m5 j hj), fun j hj => (w.i 88 j rfl).trans (m6 j hj), (w.i 74 30 rfl).trans (m7), (w.i 74 44 rfl).trans (m8), (w.l 74 31 rfl).trans (m9), fun k hk => ⟨(w.i 91 k rfl).trans (m10 k hk).1, (w.i 92 k rfl).trans (m10 k hk).2.1, (w.i 93 k rfl).trans (m10 k hk).2.2⟩, fun j hj => (w.l 89 j rfl).trans (m11 j hj)⟩⟩
  · have f1 : Fr H1 := w1.fr f (by decide)
    refine ⟨_, rfl, w1.1, m_told (D := D + 820) (ys := ysD d hd) f1 n5 ((w1.i 74 20 rfl).trans hn') (fun j hj => by rw [w1.i 79 j rfl]; exact hc' j hj) ((w1.i 74 30 rfl).trans mv.2.2.2.2.2.2.1) d40 (fun i hi => by rw [w1.i 86 _ rfl]; exact hyM i hi) (fun z => absurd g z) (fun _ H2 w2 b1 b4 => ⟨rfl, ?_, w2.2.2.2.1.trans w1.2.2.2.1, w2.2.2.2.2.1.trans w1.2.2.2.2.1⟩)⟩
    have w : Sm sTd2 h H2 := (w1.mn (fun u j z => by simp only [sTd2, z, Bool.true_or])).tr (w2.mn (fun u j z => by simp only [sTd2, z, Bool.or_true]))
    rw [w1.l 74 31 rfl, mv.2.2.2.2.2.2.2.2.1, ← cv.2.2.2.1] at b4
    exact r.vw (w.ag dj_td) (w.fr f (by decide)) (VW_keep (ag := 0) p cv mv g.2.1 (fun i hi => (tdF_ok g.2.2 hi).2) (fun i hi => holdN_lt hy40 6 i hi) w1 w2 (fun u j z => by simp only [sTo2, Bool.or_eq_true] at z; rcases z with z | z; exact (by simp only [sDn, z, Bool.or_true, Bool.true_or]); exact (by simp only [sDn, sDc, z, Bool.true_or])) (fun u j z => by simp only [sD2, z, Bool.or_true]) a1 a2 ((w1.l 14 0 rfl).trans cv.2.2.2.1) a4 b1 ((w2.l 74 31 rfl).trans ((w1.l 74 31 rfl).trans mv.2.2.2.2.2.2.2.2.1)) b4)
theorem r_dawn (r : Rel h) : SmI (D + 830) 13 132 [.ref 0] [.ref 74] h := by
  obtain ⟨f, tp, ru, su, is, me, kp, n, d, ac, cl, wt, hd, fc, th, dn, wh, de, dy, xx, bf, p, cv, mv⟩ := id r
  have co := cv.cok f p
  have mo := mv.mok f me p
  obtain ⟨⟨_, n5, hn, hc, hw, _⟩, hy40, hs⟩ := co
  obtain ⟨⟨_, _, hn', hc', hw', _⟩, _⟩ := mo
  have d40 := p.2.1
  have hyC := ys_eq (n := n) n5 d40 cv.2.2.2.2.2.2.2.2.1
  have hyM := ys_eq (n := n) n5 d40 mv.2.2.2.1
  refine c_dawn (D := D + 820) (ys := ysD d hd) f n5 hn cv.2.2.2.1 hc hw hs cv.2.2.2.2.2.1 d40 hyC hy40 (fun g => ⟨_, rfl, rfl, m_dawn (D := D + 820) (ys := ysD d hd) f n5 hn' mv.2.2.2.2.2.2.2.2.1 hc' hw' hs mv.2.2.2.2.2.2.1 d40 hyM (fun _ => ⟨rfl, rd0 r⟩) (fun z1 z2 => by omega)⟩) (fun g1 g2 H1 w1 a1 a2 a3 a4 => ?_)
  have f1 : Fr H1 := w1.fr f (by decide)
  refine ⟨_, rfl, w1.1, m_dawn (D := D + 820) (ys := ysD d hd) f1 n5 ((w1.i 74 20 rfl).trans hn') ((w1.l 74 31 rfl).trans mv.2.2.2.2.2.2.2.2.1) (fun j hj => by rw [w1.i 79 j rfl]; exact hc' j hj) (fun j hj => by rw [w1.i 81 j rfl]; exact hw' j hj) hs ((w1.i 74 30 rfl).trans mv.2.2.2.2.2.2.1) d40 (fun i hi => by rw [w1.i 86 _ rfl]; exact hyM i hi) (fun z => by omega) (fun _ _ H2 w2 b1 b2 b4 => ⟨rfl, ?_, w2.2.2.2.1.trans w1.2.2.2.1, w2.2.2.2.2.1.trans w1.2.2.2.2.1⟩)⟩
  have w : Sm sDd h H2 := (w1.mn (fun u j z => by simp only [sDd, z, Bool.true_or])).tr (w2.mn (fun u j z => by simp only [sDd, z, Bool.or_true]))
  exact r.vw (w.ag dj_dd) (w.fr f (by decide)) (VW_keep p cv mv g2 (fun i hi => dwA_lt i) (fun i hi => holdN_lt hy40 6 i hi) w1 w2 (fun u j z => z) (fun u j z => z) a1 a2 a3 a4 b1 b2 b4)
theorem r_image (r : Rel h) : SmI (D + 830) 52 186 [.ref 0] [.ref 74] h := by
  obtain ⟨f, tp, ru, su, is, me, kp, n, d, ac, cl, wt, hd, fc, th, dn, wh, de, dy, xx, bf, p, cv, mv⟩ := id r
  refine c_image (D := D + 820) f (fun H1 w1 a0 a1 => ?_)
  have f1 : Fr H1 := w1.fr f (by decide)
  refine ⟨_, rfl, w1.1, m_image (D := D + 820) f1 (fun H2 w2 b1 b2 b3 b4 b5 b6 b7 => ⟨?_, ?_, w2.2.2.2.1.trans w1.2.2.2.1, w2.2.2.2.2.1.trans w1.2.2.2.2.1⟩)⟩
  · rw [w1.i 74 30 rfl, mv.2.2.2.2.2.2.1, cv.2.2.2.2.2.1]
  have w : Sm sIm h H2 := (w1.mn (fun u j z => by simp only [sIm, z, Bool.true_or])).tr (w2.mn (fun u j z => by simp only [sIm, z, Bool.or_true]))
  obtain ⟨k1, k2, k3, k4, k5, k6, k7, k8, k9, k10⟩ := a1
  have pp := p
  obtain ⟨n5, d40, ac60, hcl, hwt, hs, hh, hf, hdn, hak, lk, fl⟩ := p
  obtain ⟨c1, c2, c3, c4, c5, c6, c7, c8, c9, c10, c11, c12⟩ := cv
  obtain ⟨m1, m2, m3, m4, m5, m6, m7, m8, m9, m10, m11⟩ := mv
  refine r.kp (w.ag dj_im) (w.fr f (by decide)) (Or.inr ⟨(w2.i 0 10 rfl).trans a0, b7, n, d, ac, cl, wt, hd, fc, th, dn, wh, de, dy, xx, bf, pp, ?_, ?_⟩)
  · exact ⟨((w2.i 21 0 rfl).trans k1).trans c1, fun j hj => ((w2.i 22 j rfl).trans (k2 j hj)).trans (c2 j hj), fun j hj => ((w2.i 23 j rfl).trans (k3 j hj)).trans (c3 j hj), ((w2.l 24 0 rfl).trans k4).trans c4, fun z => ((w2.i 24 1 rfl).trans (k5 1 (by decide) (by decide))).trans (c5 z), ((w2.i 24 2 rfl).trans (k5 2 (by decide) (by decide))).trans c6, ((w2.i 24 3 rfl).trans (k5 3 (by decide) (by decide))).trans c7, fun j hj => ((w2.i 25 j rfl).trans (k6 j hj)).trans (c8 j hj), fun j hj => ((w2.i 26 j rfl).trans (k7 j hj)).trans (c9 j hj), fun j hj => ((w2.i 27 j rfl).trans (k8 j hj)).trans (c10 j hj), fun j hj => ((w2.i 28 j rfl).trans (k9 j hj)).trans (c11 j hj), fun j hj => ((w2.l 29 j rfl).trans (k10 j hj)).trans (c12 j hj)⟩
  · refine ⟨(b3.trans (w1.i 74 20 rfl)).trans m1, fun j hj => ?_, fun j hj => ?_, fun j hj => ?_, fun j hj => ?_, fun j hj => ?_, (b4.trans (w1.i 74 30 rfl)).trans m7, (b5.trans (w1.i 74 44 rfl)).trans m8, (b6.trans (w1.l 74 31 rfl)).trans m9, fun k hk => ⟨?_, ?_, ?_⟩, fun j hj => ((b2 j hj).trans (w1.l 89 j rfl)).trans (m11 j hj)⟩
    · rw [b1 (j) (by omega)]
      unfold IMG
      (repeat rw [if_neg (by omega)])
      (try rw [if_pos (by omega)])
      rw [Nat.sub_zero, w1.i 79 j rfl]
      exact m2 j hj
    · rw [b1 (30 + j) (by omega)]
      unfold IMG
      (repeat rw [if_neg (by omega)])
      (try rw [if_pos (by omega)])
      rw [Nat.add_sub_cancel_left, w1.i 81 j rfl]
      exact m3 j hj
    · rw [b1 (60 + j) (by omega)]
      unfold IMG
      (repeat rw [if_neg (by omega)])
      (try rw [if_pos (by omega)])
      rw [Nat.add_sub_cancel_left, w1.i 86 j rfl]
      exact m4 j hj
    · rw [b1 (260 + j) (by omega)]
      unfold IMG
      (repeat rw [if_neg (by omega)])
      (try rw [if_pos (by omega)])
      rw [Nat.add_sub_cancel_left, w1.i 87 j rfl]
      exact m5 j hj
    · rw [b1 (460 + j) (by omega)]
      unfold IMG
      (repeat rw [if_neg (by omega)])
      (try rw [if_pos (by omega)])
      rw [Nat.add_sub_cancel_left, w1.i 88 j rfl]
      exact m6 j hj
    · rw [b1 (500 + k) (by omega)]
      unfold IMG
      (repeat rw [if_neg (by omega)])
      (try rw [if_pos (by omega)])
      rw [Nat.add_sub_cancel_left, w1.i 91 k rfl]
      exact (m10 k hk).1
    · rw [b1 (560 + k) (by omega)]
      unfold IMG
      (repeat rw [if_neg (by omega)])
      (try rw [if_pos (by omega)])
      rw [Nat.add_sub_cancel_left, w1.i 92 k rfl]
      exact (m10 k hk).2.1
    · rw [b1 (620 + k) (by omega)]
      unfold IMG
      (repeat rw [if_neg (by omega)])
      (try rw [if_pos (by omega)])
      rw [Nat.add_sub_cancel_left, w1.i 93 k rfl]
      exact (m10 k hk).2.2
theorem r_back (r : Rel h) : SmI (D + 830) 53 187 [.ref 0] [.ref 74] h := by
  obtain ⟨f, tp, ru, su, is, me, kp, n0, d0, ac0, cl0, wt0, hd0, fc0, th0, dn0, wh0, de0, dy0, x0, bf0, p0, cv0, mv0⟩ := id r
  rcases kp with ⟨k1, k2⟩ | ⟨k1, k2, n, d, ac, cl, wt, hd, fc, th, dn, wh, de, dy, xx, bf, p, cv, mi⟩
  · exact c_back (D := D + 820) f (Or.inl k1) (fun _ => ⟨_, rfl, rfl, m_back (D := D + 820) f (Or.inl k2) (fun _ => ⟨rfl, rd0 r⟩) (fun z => by rw [k2] at z; exact absurd z (by decide))⟩) (fun z => by rw [k1] at z; exact absurd z (by decide))
  · refine c_back (D := D + 820) f (Or.inr k1) (fun z => by rw [k1] at z; exact absurd z (by decide)) (fun _ H1 w1 a1 => ?_)
    have f1 : Fr H1 := w1.fr f (by decide)
    have k2' : hI H1 74 52 = nI 1 := (w1.i 74 52 rfl).trans k2
    refine ⟨_, rfl, w1.1, m_back (D := D + 820) f1 (Or.inr k2') (fun z => by rw [k2'] at z; exact absurd z (by decide)) (fun _ H2 w2 b1 b2 b3 b4 b5 b6 b7 b8 b9 b10 b11 b12 b13 => ⟨?_, ?_, w2.2.2.2.1.trans w1.2.2.2.1, w2.2.2.2.2.1.trans w1.2.2.2.2.1⟩)⟩
    · rw [w1.i 74 48 rfl, mi.2.2.2.2.2.2.1, cv.2.2.2.2.2.1]
    have w : Sm sBk h H2 := (w1.mn (fun u j z => by simp only [sBk, z, Bool.true_or])).tr (w2.mn (fun u j z => by simp only [sBk, z, Bool.or_true]))
    obtain ⟨q1, q2, q3, q4, q5, q6, q7, q8, q9, q10⟩ := a1
    have pp := p
    obtain ⟨n5, d40, ac60, hcl, hwt, hs, hh, hf, hdn, hak, lk, fl⟩ := p
    obtain ⟨c1, c2, c3, c4, c5, c6, c7, c8, c9, c10, c11, c12⟩ := cv
    obtain ⟨m1, m2, m3, m4, m5, m6, m7, m8, m9, m10, m11⟩ := mi
    refine r.vw (w.ag dj_bk) (w.fr f (by decide)) ⟨n, d, ac, cl, wt, hd, fc, th, dn, wh, de, dy, xx, bf, pp, ?_, ?_⟩
    · exact ⟨((w2.i 11 0 rfl).trans q1).trans c1, fun j hj => ((w2.i 12 j rfl).trans (q2 j hj)).trans (c2 j hj), fun j hj => ((w2.i 13 j rfl).trans (q3 j hj)).trans (c3 j hj), ((w2.l 14 0 rfl).trans q4).trans c4, fun z => ((w2.i 14 1 rfl).trans (q5 1 (by decide) (by decide))).trans (c5 z), ((w2.i 14 2 rfl).trans (q5 2 (by decide) (by decide))).trans c6, ((w2.i 14 3 rfl).trans (q5 3 (by decide) (by decide))).trans c7, fun j hj => ((w2.i 15 j rfl).trans (q6 j hj)).trans (c8 j hj), fun j hj => ((w2.i 16 j rfl).trans (q7 j hj)).trans (c9 j hj), fun j hj => ((w2.i 17 j rfl).trans (q8 j hj)).trans (c10 j hj), fun j hj => ((w2.i 18 j rfl).trans (q9 j hj)).trans (c11 j hj), fun j hj => ((w2.l 19 j rfl).trans (q10 j hj)).trans (c12 j hj)⟩
    · exact ⟨(b10.trans (w1.i 74 47 rfl)).trans m1, fun j hj => ((b1 j hj).trans (w1.i 94 _ rfl)).trans (m2 j hj), fun j hj => ((b2 j hj).trans (w1.i 94 _ rfl)).trans (m3 j hj), fun j hj => ((b3 j hj).trans (w1.i 94 _ rfl)).trans (m4 j hj), fun j hj => ((b4 j hj).trans (w1.i 94 _ rfl)).trans (m5 j hj), fun j hj => ((b5 j hj).trans (w1.i 94 _ rfl)).trans (m6 j hj), (b11.trans (w1.i 74 48 rfl)).trans m7, (b12.trans (w1.i 74 49 rfl)).trans m8, (b13.trans (w1.l 74 51 rfl)).trans m9, fun k hk => ⟨((b6 k (by omega)).trans (w1.i 94 _ rfl)).trans (m10 k hk).1, ((b7 k (by omega)).trans (w1.i 94 _ rfl)).trans (m10 k hk).2.1, ((b8 k (by omega)).trans (w1.i 94 _ rfl)).trans (m10 k hk).2.2⟩, fun j hj => ((b9 j hj).trans (w1.l 95 j rfl)).trans (m11 j hj)⟩
end
