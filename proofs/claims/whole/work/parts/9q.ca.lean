/-! Changes: seed, amend, weigh, suspect, the tape, the readers. -/
def rB (u j : Nat) : Bool := rT u j || rU u j || rS u j || rI u j || rE u j || rK u j
/-- all but the tape -/
def rX (u j : Nat) : Bool := rU u j || rS u j || rI u j || rE u j || rK u j || rC u j || rM u j
def sSe (u j : Nat) : Bool := (u == 14 && j == 0) || (u == 74 && (j == 0 || j == 31))
def sAm (u j : Nat) : Bool := u == 12 || u == 79 || (u == 74 && j == 0)
def sWe (u j : Nat) : Bool := u == 32 || u == 13 || u == 81 || (u == 74 && j == 0)
def sSu (u j : Nat) : Bool := u == 32 || u == 31 || u == 82 || (u == 74 && j == 0)
def sSu0 (u j : Nat) : Bool := u == 32 || (u == 74 && j == 0)
def sTp (u j : Nat) : Bool := sTpC u j || sTpM u j
section
variable {D : Nat} {h h1 h2 : Hp}
theorem Rel.vw (r : Rel h) (a : Ag rB h h1) (f : Fr h1) (v : VWr h1) : Rel h1 := by
  obtain ⟨r1, r2, r3, r4, r5, r6, r7, r8⟩ := r
  refine ⟨f, r2.ag (a.mono ?_), r3.ag (a.mono ?_), r4.ag (a.mono ?_), r5.ag (a.mono ?_), r6.ag (a.mono ?_), r7.ag (a.mono ?_), v⟩
  all_goals
    intro u j z
    simp only [rB, z, Bool.true_or, Bool.or_true]
theorem Rel.tp (r : Rel h) (a : Ag rX h h1) (f : Fr h1) (t : TPr h1) : Rel h1 := by
  obtain ⟨r1, r2, r3, r4, r5, r6, r7, r8⟩ := r
  refine ⟨f, t, r3.ag (a.mono ?_), r4.ag (a.mono ?_), r5.ag (a.mono ?_), r6.ag (a.mono ?_), r7.ag (a.mono ?_), r8.ag (a.mono ?_) (a.mono ?_)⟩
  all_goals
    intro u j z
    simp only [rX, z, Bool.true_or, Bool.or_true]
theorem dj_se : ∀ u j, rB u j = true → sSe u j = false := fun u j z => by
  cases q : sSe u j
  · rfl
  · simp only [rB, rA, rB, rX, rT, rU, rS, rI, rE, rK, rKc, rKm, rC, rM, Bool.or_eq_true, Bool.and_eq_true, beq_iff_eq] at z
    simp only [sSe, Bool.or_eq_true, Bool.and_eq_true, beq_iff_eq] at q
    omega
theorem dj_am : ∀ u j, rB u j = true → sAm u j = false := fun u j z => by
  cases q : sAm u j
  · rfl
  · simp only [rB, rA, rB, rX, rT, rU, rS, rI, rE, rK, rKc, rKm, rC, rM, Bool.or_eq_true, Bool.and_eq_true, beq_iff_eq] at z
    simp only [sAm, Bool.or_eq_true, Bool.and_eq_true, beq_iff_eq] at q
    omega
theorem dj_we : ∀ u j, rB u j = true → sWe u j = false := fun u j z => by
  cases q : sWe u j
  · rfl
  · simp only [rB, rA, rB, rX, rT, rU, rS, rI, rE, rK, rKc, rKm, rC, rM, Bool.or_eq_true, Bool.and_eq_true, beq_iff_eq] at z
    simp only [sWe, Bool.or_eq_true, Bool.and_eq_true, beq_iff_eq] at q
    omega
theorem dj_tp : ∀ u j, rX u j = true → sTp u j = false := fun u j z => by
  cases q : sTp u j
  · rfl
  · simp only [rX, rA, rB, rX, rT, rU, rS, rI, rE, rK, rKc, rKm, rC, rM, Bool.or_eq_true, Bool.and_eq_true, beq_iff_eq] at z
    simp only [sTp, sTpC, sTpM, Bool.or_eq_true, Bool.and_eq_true, beq_iff_eq] at q
    omega
theorem dj_su0 : ∀ u j, rA u j = true → sSu0 u j = false := fun u j z => by
  cases q : sSu0 u j
  · rfl
  · simp only [rA, rA, rB, rX, rT, rU, rS, rI, rE, rK, rKc, rKm, rC, rM, Bool.or_eq_true, Bool.and_eq_true, beq_iff_eq] at z
    simp only [sSu0, Bool.or_eq_true, Bool.and_eq_true, beq_iff_eq] at q
    omega
theorem dj_su1 : ∀ u j, rE u j = true → sSu0 u j = false := fun u j z => by
  cases q : sSu0 u j
  · rfl
  · simp only [rE, rA, rB, rX, rT, rU, rS, rI, rE, rK, rKc, rKm, rC, rM, Bool.or_eq_true, Bool.and_eq_true, beq_iff_eq] at z
    simp only [sSu0, Bool.or_eq_true, Bool.and_eq_true, beq_iff_eq] at q
    omega
theorem dj_suT : ∀ u j, rT u j = true → sSu u j = false := fun u j z => by
  cases q : sSu u j
  · rfl
  · simp only [rT, rA, rB, rX, rT, rU, rS, rI, rE, rK, rKc, rKm, rC, rM, Bool.or_eq_true, Bool.and_eq_true, beq_iff_eq] at z
    simp only [sSu, Bool.or_eq_true, Bool.and_eq_true, beq_iff_eq] at q
    omega
theorem dj_suU : ∀ u j, rU u j = true → sSu u j = false := fun u j z => by
  cases q : sSu u j
  · rfl
  · simp only [rU, rA, rB, rX, rT, rU, rS, rI, rE, rK, rKc, rKm, rC, rM, Bool.or_eq_true, Bool.and_eq_true, beq_iff_eq] at z
    simp only [sSu, Bool.or_eq_true, Bool.and_eq_true, beq_iff_eq] at q
    omega
theorem dj_suI : ∀ u j, rI u j = true → sSu u j = false := fun u j z => by
  cases q : sSu u j
  · rfl
  · simp only [rI, rA, rB, rX, rT, rU, rS, rI, rE, rK, rKc, rKm, rC, rM, Bool.or_eq_true, Bool.and_eq_true, beq_iff_eq] at z
    simp only [sSu, Bool.or_eq_true, Bool.and_eq_true, beq_iff_eq] at q
    omega
theorem dj_suE : ∀ u j, rE u j = true → sSu u j = false := fun u j z => by
  cases q : sSu u j
  · rfl
  · simp only [rE, rA, rB, rX, rT, rU, rS, rI, rE, rK, rKc, rKm, rC, rM, Bool.or_eq_true, Bool.and_eq_true, beq_iff_eq] at z
    simp only [sSu, Bool.or_eq_true, Bool.and_eq_true, beq_iff_eq] at q
    omega
theorem dj_suK : ∀ u j, rK u j = true → sSu u j = false := fun u j z => by
  cases q : sSu u j
  · rfl
  · simp only [rK, rA, rB, rX, rT, rU, rS, rI, rE, rK, rKc, rKm, rC, rM, Bool.or_eq_true, Bool.and_eq_true, beq_iff_eq] at z
    simp only [sSu, Bool.or_eq_true, Bool.and_eq_true, beq_iff_eq] at q
    omega
theorem dj_suC : ∀ u j, rC u j = true → sSu u j = false := fun u j z => by
  cases q : sSu u j
  · rfl
  · simp only [rC, rA, rB, rX, rT, rU, rS, rI, rE, rK, rKc, rKm, rC, rM, Bool.or_eq_true, Bool.and_eq_true, beq_iff_eq] at z
    simp only [sSu, Bool.or_eq_true, Bool.and_eq_true, beq_iff_eq] at q
    omega
theorem dj_suM : ∀ u j, rM u j = true → sSu u j = false := fun u j z => by
  cases q : sSu u j
  · rfl
  · simp only [rM, rA, rB, rX, rT, rU, rS, rI, rE, rK, rKc, rKm, rC, rM, Bool.or_eq_true, Bool.and_eq_true, beq_iff_eq] at z
    simp only [sSu, Bool.or_eq_true, Bool.and_eq_true, beq_iff_eq] at q
    omega
theorem r_seed {x : Int64} (r : Rel h) : SmV (D + 830) 12 129 [.ref 0, .long x] [.ref 74, .long x] h := by
  obtain ⟨f, tp, ru, su, is, me, kp, n, d, ac, cl, wt, hd, fc, th, dn, wh, de, dy, xx, bf, p, cv, mv⟩ := id r
  refine c_seed (D := D + 829) f ⟨rfl, rfl, m_seed (D := D + 829) (h := sL h 14 0 x) f ⟨rfl, ?_, rfl, rfl⟩⟩
  have w : Sm sSe h (sL (sI (sL h 14 0 x) 74 0 (nI 0)) 74 31 x) := (((Sm.rf _ h).wL (a := 14) _ rfl).wI (a := 74) _ rfl).wL (a := 74) _ rfl
  obtain ⟨c1, c2, c3, c4, c5, c6, c7, c8, c9, c10, c11, c12⟩ := cv
  obtain ⟨m1, m2, m3, m4, m5, m6, m7, m8, m9, m10, m11⟩ := mv
  refine r.vw (w.ag dj_se) f ⟨n, d, ac, cl, wt, hd, fc, th, dn, wh, de, dy, x, bf, p, ⟨(w.i 11 0 rfl).trans (c1), fun j hj => (w.i 12 j rfl).trans (c2 j hj), fun j hj => (w.i 13 j rfl).trans (c3 j hj), ?_, fun z => (w.i 14 1 rfl).trans (c5 z), (w.i 14 2 rfl).trans (c6), (w.i 14 3 rfl).trans (c7), fun j hj => (w.i 15 j rfl).trans (c8 j hj), fun j hj => (w.i 16 j rfl).trans (c9 j hj), fun j hj => (w.i 17 j rfl).trans (c10 j hj), fun j hj => (w.i 18 j rfl).trans (c11 j hj), fun j hj => (w.l 19 j rfl).trans (c12 j hj)⟩, ⟨(w.i 74 20 rfl).trans (m1), fun j hj => (w.i 79 j rfl).trans (m2 j hj), fun j hj => (w.i 81 j rfl).trans (m3 j hj), fun j hj => (w.i 86 j rfl).trans (m4 j hj), fun j hj => (w.i 87 j rfl).trans (m5 j hj), fun j hj => (w.i 88 j rfl).trans (m6 j hj), (w.i 74 30 rfl).trans (m7), (w.i 74 44 rfl).trans (m8), ?_, fun k hk => ⟨(w.i 91 k rfl).trans (m10 k hk).1, (w.i 92 k rfl).trans (m10 k hk).2.1, (w.i 93 k rfl).trans (m10 k hk).2.2⟩, fun j hj => (w.l 89 j rfl).trans (m11 j hj)⟩⟩
  all_goals
    simp only [hK_sI, hN_sI, hI_sI, hL_sI, hR_sI, hZ_sI, hC_sI, hS_sI, hK_sL, hN_sL, hI_sL, hL_sL, hR_sL, hZ_sL, hC_sL, hS_sL, hK_sR, hN_sR, hI_sR, hL_sR, hR_sR, hZ_sR, hC_sR, hS_sR, hK_sA, hN_sA, hI_sA, hL_sA, hR_sA, hK_sLA, hN_sLA, hI_sLA, hL_sLA, hR_sLA, up2_at, vu_at]
    simp
theorem clB_k60 {z : Int32} (h : clB z = true) : ∃ k : Nat, k ≤ 60 ∧ z = nI k := by
  by_cases z0 : z < 0
  · unfold clB at h
    rw [if_pos z0] at h
    cases h
  · obtain ⟨k, hk, rfl⟩ := nI_of z0
    rw [clB_nI (by omega)] at h
    have := of_decide_eq_true h
    exact ⟨k, by omega, rfl⟩
theorem r_amend {x y z : Int32} (r : Rel h) : SmI (D + 830) 11 119 [.ref 0, .int x, .int y, .int z] [.ref 74, .int x, .int y, .int z] h := by
  obtain ⟨f, tp, ru, su, is, me, kp, n, d, ac, cl, wt, hd, fc, th, dn, wh, de, dy, xx, bf, p, cv, mv⟩ := id r
  by_cases G : gAm3 n x y z
  · refine c_amend (D := D + 820) f p.1 cv.1 (fun q => absurd G q) (fun _ => ⟨_, rfl, rfl, m_amend (D := D + 820) (h := sI h 12 (6 * tN x + tN y) z) f p.1 mv.1 (fun q => absurd G q) (fun _ => ⟨rfl, ?_, rfl, rfl⟩)⟩)
    obtain ⟨n5, d40, ac60, hcl, hwt, hs, hh, hf, hdn, hak, lk, fl⟩ := p
    obtain ⟨gx, gy, gz⟩ := G
    obtain ⟨jx, bx, rfl⟩ := dIn_get (by omega) gx
    obtain ⟨jy, by', rfl⟩ := dIn_get (by decide) gy
    obtain ⟨jz, bz, rfl⟩ := clB_k60 gz
    rw [tN_nI (by omega), tN_nI (by omega)]
    have w : Sm sAm h (sI (sI (sI h 12 (6 * jx + jy) (nI jz)) 74 0 (nI 0)) 79 (6 * jx + jy) (nI jz)) := (((Sm.rf _ h).wI (a := 12) _ rfl).wI (a := 74) _ rfl).wI (a := 79) _ rfl
    obtain ⟨c1, c2, c3, c4, c5, c6, c7, c8, c9, c10, c11, c12⟩ := cv
    obtain ⟨m1, m2, m3, m4, m5, m6, m7, m8, m9, m10, m11⟩ := mv
    refine r.vw (w.ag dj_am) f ⟨n, d, ac, fun j => if j = 6 * jx + jy then jz else cl j, wt, hd, fc, th, dn, wh, de, dy, xx, bf, ⟨n5, d40, ac60, fun j hj => ?_, hwt, hs, hh, hf, hdn, hak, lk, fl⟩, ⟨(w.i 11 0 rfl).trans (c1), fun j hj => ?_, fun j hj => (w.i 13 j rfl).trans (c3 j hj), (w.l 14 0 rfl).trans (c4), fun z => (w.i 14 1 rfl).trans (c5 z), (w.i 14 2 rfl).trans (c6), (w.i 14 3 rfl).trans (c7), fun j hj => (w.i 15 j rfl).trans (c8 j hj), fun j hj => (w.i 16 j rfl).trans (c9 j hj), fun j hj => (w.i 17 j rfl).trans (c10 j hj), fun j hj => (w.i 18 j rfl).trans (c11 j hj), fun j hj => (w.l 19 j rfl).trans (c12 j hj)⟩, ⟨(w.i 74 20 rfl).trans (m1), fun j hj => ?_, fun j hj => (w.i 81 j rfl).trans (m3 j hj), fun j hj => (w.i 86 j rfl).trans (m4 j hj), fun j hj => (w.i 87 j rfl).trans (m5 j hj), fun j hj => (w.i 88 j rfl).trans (m6 j hj), (w.i 74 30 rfl).trans (m7), (w.i 74 44 rfl).trans (m8), (w.l 74 31 rfl).trans (m9), fun k hk => ⟨(w.i 91 k rfl).trans (m10 k hk).1, (w.i 92 k rfl).trans (m10 k hk).2.1, (w.i 93 k rfl).trans (m10 k hk).2.2⟩, fun j hj => (w.l 89 j rfl).trans (m11 j hj)⟩⟩
    · show (if j = 6 * jx + jy then jz else cl j) ≤ 60
      split
      · exact bz
      · exact hcl j hj
    · show _ = nI (if j = 6 * jx + jy then jz else cl j)
      by_cases q : j = 6 * jx + jy
      · rw [if_pos q, q]
        simp only [hK_sI, hN_sI, hI_sI, hL_sI, hR_sI, hZ_sI, hC_sI, hS_sI, hK_sL, hN_sL, hI_sL, hL_sL, hR_sL, hZ_sL, hC_sL, hS_sL, hK_sR, hN_sR, hI_sR, hL_sR, hR_sR, hZ_sR, hC_sR, hS_sR, hK_sA, hN_sA, hI_sA, hL_sA, hR_sA, hK_sLA, hN_sLA, hI_sLA, hL_sLA, hR_sLA, up2_at, vu_at]
        simp
      · rw [if_neg q, ← c2 j hj]
        simp only [hK_sI, hN_sI, hI_sI, hL_sI, hR_sI, hZ_sI, hC_sI, hS_sI, hK_sL, hN_sL, hI_sL, hL_sL, hR_sL, hZ_sL, hC_sL, hS_sL, hK_sR, hN_sR, hI_sR, hL_sR, hR_sR, hZ_sR, hC_sR, hS_sR, hK_sA, hN_sA, hI_sA, hL_sA, hR_sA, hK_sLA, hN_sLA, hI_sLA, hL_sLA, hR_sLA, up2_at, vu_at]
        simp [q]
    · show _ = nI (if j = 6 * jx + jy then jz else cl j)
      by_cases q : j = 6 * jx + jy
      · rw [if_pos q, q]
        simp only [hK_sI, hN_sI, hI_sI, hL_sI, hR_sI, hZ_sI, hC_sI, hS_sI, hK_sL, hN_sL, hI_sL, hL_sL, hR_sL, hZ_sL, hC_sL, hS_sL, hK_sR, hN_sR, hI_sR, hL_sR, hR_sR, hZ_sR, hC_sR, hS_sR, hK_sA, hN_sA, hI_sA, hL_sA, hR_sA, hK_sLA, hN_sLA, hI_sLA, hL_sLA, hR_sLA, up2_at, vu_at]
        simp
      · rw [if_neg q, ← m2 j hj]
        simp only [hK_sI, hN_sI, hI_sI, hL_sI, hR_sI, hZ_sI, hC_sI, hS_sI, hK_sL, hN_sL, hI_sL, hL_sL, hR_sL, hZ_sL, hC_sL, hS_sL, hK_sR, hN_sR, hI_sR, hL_sR, hR_sR, hZ_sR, hC_sR, hS_sR, hK_sA, hN_sA, hI_sA, hL_sA, hR_sA, hK_sLA, hN_sLA, hI_sLA, hL_sLA, hR_sLA, up2_at, vu_at]
        simp [q]
  · exact c_amend (D := D + 820) f p.1 cv.1 (fun _ => ⟨_, rfl, rfl, m_amend (D := D + 820) f p.1 mv.1 (fun _ => ⟨rfl, rd0 r⟩) (fun q => absurd q G)⟩) (fun q => absurd q G)
def sixN (a b c e g i j : Nat) : Nat := if j = 0 then a else if j = 1 then b else if j = 2 then c else if j = 3 then e else if j = 4 then g else i
theorem six_N {a b c e g i j : Nat} : six (nI a) (nI b) (nI c) (nI e) (nI g) (nI i) j = nI (sixN a b c e g i j) := by
  unfold six sixN
  repeat' split
  all_goals rfl
theorem twB_get {a b c e g i : Int32} (h : twB a b c e g i = true) : ∃ A B C E G I : Nat, (a = nI A ∧ b = nI B ∧ c = nI C ∧ e = nI E ∧ g = nI G ∧ i = nI I) ∧ (A ≤ 12 ∧ B ≤ 12 ∧ C ≤ 12 ∧ E ≤ 12 ∧ G ≤ 12 ∧ I ≤ 12) ∧ A + B + C + E + G + I = 12 := by
  unfold twB at h
  by_cases na : a < 0
  · rw [if_pos na] at h; cases h
  rw [if_neg na] at h
  by_cases nb : b < 0
  · rw [if_pos nb] at h; cases h
  rw [if_neg nb] at h
  by_cases nc : c < 0
  · rw [if_pos nc] at h; cases h
  rw [if_neg nc] at h
  by_cases ne : e < 0
  · rw [if_pos ne] at h; cases h
  rw [if_neg ne] at h
  by_cases ng : g < 0
  · rw [if_pos ng] at h; cases h
  rw [if_neg ng] at h
  by_cases ni : i < 0
  · rw [if_pos ni] at h; cases h
  rw [if_neg ni] at h
  by_cases pa : nI 12 < a
  · rw [if_pos pa] at h; cases h
  rw [if_neg pa] at h
  obtain ⟨ja, ba, rfl⟩ := nI_of na
  rw [nI_ltN (by omega) (by omega)] at pa
  by_cases pb : nI 12 < b
  · rw [if_pos pb] at h; cases h
  rw [if_neg pb] at h
  obtain ⟨jb, bb, rfl⟩ := nI_of nb
  rw [nI_ltN (by omega) (by omega)] at pb
  by_cases pc : nI 12 < c
  · rw [if_pos pc] at h; cases h
  rw [if_neg pc] at h
  obtain ⟨jc, bc, rfl⟩ := nI_of nc
  rw [nI_ltN (by omega) (by omega)] at pc
  by_cases pe : nI 12 < e
  · rw [if_pos pe] at h; cases h
  rw [if_neg pe] at h
  obtain ⟨je, be, rfl⟩ := nI_of ne
  rw [nI_ltN (by omega) (by omega)] at pe
  by_cases pg : nI 12 < g
  · rw [if_pos pg] at h; cases h
  rw [if_neg pg] at h
  obtain ⟨jg, bg, rfl⟩ := nI_of ng
  rw [nI_ltN (by omega) (by omega)] at pg
  by_cases pi : nI 12 < i
  · rw [if_pos pi] at h; cases h
  rw [if_neg pi] at h
  obtain ⟨ji, bi, rfl⟩ := nI_of ni
  rw [nI_ltN (by omega) (by omega)] at pi
  by_cases z : nI ja + nI jb + nI jc + nI je + nI jg + nI ji = nI 12
  · rw [nI_add, nI_add, nI_add, nI_add, nI_add, nI_eqN (by omega) (by omega)] at z
    exact ⟨ja, jb, jc, je, jg, ji, ⟨rfl, rfl, rfl, rfl, rfl, rfl⟩, ⟨by omega, by omega, by omega, by omega, by omega, by omega⟩, z⟩
  · rw [if_neg z] at h; cases h
theorem set6_at {A p : Nat} {a b c e g i : Int32} {u j : Nat} : hI (set6 h A p a b c e g i) u j = if u = A ∧ p ≤ j ∧ j < p + 6 then six a b c e g i (j - p) else hI h u j := by
  unfold set6 six
  simp only [hK_sI, hN_sI, hI_sI, hL_sI, hR_sI, hZ_sI, hC_sI, hS_sI, hK_sL, hN_sL, hI_sL, hL_sL, hR_sL, hZ_sL, hC_sL, hS_sL, hK_sR, hN_sR, hI_sR, hL_sR, hR_sR, hZ_sR, hC_sR, hS_sR, hK_sA, hN_sA, hI_sA, hL_sA, hR_sA, hK_sLA, hN_sLA, hI_sLA, hL_sLA, hR_sLA, up2_at, vu_at]
  by_cases q : u = A
  · by_cases z : p ≤ j ∧ j < p + 6
    · obtain ⟨k, hk, rfl⟩ : ∃ k, k < 6 ∧ j = p + k := ⟨j - p, by omega, by omega⟩
      rcases (show k = 0 ∨ k = 1 ∨ k = 2 ∨ k = 3 ∨ k = 4 ∨ k = 5 by omega) with y | y | y | y | y | y <;> subst y <;> simp [q]
    · rw [if_neg (by omega), if_neg (by omega), if_neg (by omega), if_neg (by omega), if_neg (by omega), if_neg (by omega), if_neg (fun y => z ⟨y.2.1, y.2.2⟩)]
  · rw [if_neg (fun y => q y.1), if_neg (fun y => q y.1), if_neg (fun y => q y.1), if_neg (fun y => q y.1), if_neg (fun y => q y.1), if_neg (fun y => q y.1), if_neg (fun y => q y.1)]
theorem set6_Sm {S : Nat → Nat → Bool} {A p : Nat} {a b c e g i : Int32} (s : Sm S h h1) (q : ∀ j, S A j = true) : Sm S h (set6 h1 A p a b c e g i) := (((((s.wI _ (q _)).wI _ (q _)).wI _ (q _)).wI _ (q _)).wI _ (q _)).wI _ (q _)
theorem r_weigh {x a b c e g i : Int32} (r : Rel h) : SmI (D + 830) 8 116 [.ref 0, .int x, .int a, .int b, .int c, .int e, .int g, .int i] [.ref 74, .int x, .int a, .int b, .int c, .int e, .int g, .int i] h := by
  obtain ⟨f, tp, ru, su, is, me, kp, n, d, ac, cl, wt, hd, fc, th, dn, wh, de, dy, xx, bf, p, cv, mv⟩ := id r
  by_cases G : gWe n x a b c e g i
  · refine c_weigh (D := D + 820) f p.1 cv.1 (fun q => absurd G q) (fun q => absurd G q) (fun _ H1 w1 e1 => ?_)
    have f1 : Fr H1 := w1.fr f (by decide)
    refine ⟨_, rfl, w1.1, m_weigh (D := D + 820) f1 p.1 ((w1.i 74 20 rfl).trans mv.1) (fun q => absurd G q) (fun _ => ⟨rfl, ?_, w1.2.2.2.1, w1.2.2.2.2.1⟩)⟩
    obtain ⟨n5, d40, ac60, hcl, hwt, hs, hh, hf, hdn, hak, lk, fl⟩ := p
    obtain ⟨gx, gy⟩ := G
    obtain ⟨jx, bx, rfl⟩ := dIn_get (by omega) gx
    obtain ⟨A, B, C, E, G, I, ⟨rfl, rfl, rfl, rfl, rfl, rfl⟩, ⟨b1, b2, b3, b4, b5, b6⟩, sum⟩ := twB_get gy
    rw [tN_nI (by omega)] at e1 ⊢
    have w : Sm sWe h (set6 (sI H1 74 0 (nI 0)) 81 (6 * jx) (nI A) (nI B) (nI C) (nI E) (nI G) (nI I)) := set6_Sm ((w1.mn (fun u j => by simp only [sWe, Bool.or_eq_true, Bool.and_eq_true, beq_iff_eq]; omega)).wI (a := 74) _ rfl) (fun _ => rfl)
    have hN6 : ∀ j, sixN A B C E G I j ≤ 12 := fun j => by
      unfold sixN
      repeat' split
      all_goals omega
    obtain ⟨c1, c2, c3, c4, c5, c6, c7, c8, c9, c10, c11, c12⟩ := cv
    obtain ⟨m1, m2, m3, m4, m5, m6, m7, m8, m9, m10, m11⟩ := mv
    refine r.vw (w.ag dj_we) (w.fr f (by decide)) ⟨n, d, ac, cl, fun j => if 6 * jx ≤ j ∧ j < 6 * jx + 6 then sixN A B C E G I (j - 6 * jx) else wt j, hd, fc, th, dn, wh, de, dy, xx, bf, ⟨n5, d40, ac60, hcl, fun j hj => ?_, fun l hl => ?_, hh, hf, hdn, hak, lk, fl⟩, ⟨(w.i 11 0 rfl).trans (c1), fun j hj => (w.i 12 j rfl).trans (c2 j hj), fun j hj => ?_, (w.l 14 0 rfl).trans (c4), fun z => (w.i 14 1 rfl).trans (c5 z), (w.i 14 2 rfl).trans (c6), (w.i 14 3 rfl).trans (c7), fun j hj => (w.i 15 j rfl).trans (c8 j hj), fun j hj => (w.i 16 j rfl).trans (c9 j hj), fun j hj => (w.i 17 j rfl).trans (c10 j hj), fun j hj => (w.i 18 j rfl).trans (c11 j hj), fun j hj => (w.l 19 j rfl).trans (c12 j hj)⟩, ⟨(w.i 74 20 rfl).trans (m1), fun j hj => (w.i 79 j rfl).trans (m2 j hj), fun j hj => ?_, fun j hj => (w.i 86 j rfl).trans (m4 j hj), fun j hj => (w.i 87 j rfl).trans (m5 j hj), fun j hj => (w.i 88 j rfl).trans (m6 j hj), (w.i 74 30 rfl).trans (m7), (w.i 74 44 rfl).trans (m8), (w.l 74 31 rfl).trans (m9), fun k hk => ⟨(w.i 91 k rfl).trans (m10 k hk).1, (w.i 92 k rfl).trans (m10 k hk).2.1, (w.i 93 k rfl).trans (m10 k hk).2.2⟩, fun j hj => (w.l 89 j rfl).trans (m11 j hj)⟩⟩
    · show (if 6 * jx ≤ j ∧ j < 6 * jx + 6 then sixN A B C E G I (j - 6 * jx) else wt j) ≤ 12
      split
      · exact hN6 _
      · exact hwt j hj
    · by_cases q : l = jx
      · subst q
        rw [show sm 6 (wtF (fun j => if 6 * l ≤ j ∧ j < 6 * l + 6 then sixN A B C E G I (j - 6 * l) else wt j) l) = sm 6 (fun k => sixN A B C E G I k) from sm_congr (fun k hk => by
          show (if 6 * l ≤ 6 * l + k ∧ 6 * l + k < 6 * l + 6 then sixN A B C E G I (6 * l + k - 6 * l) else wt (6 * l + k)) = _
          rw [if_pos ⟨by omega, by omega⟩, Nat.add_sub_cancel_left])]
        rw [show sm 6 (fun k => sixN A B C E G I k) = 0 + A + B + C + E + G + I from rfl]
        omega
      · rw [← hs l hl]
        exact sm_congr (fun k hk => by
          show (if 6 * jx ≤ 6 * l + k ∧ 6 * l + k < 6 * jx + 6 then sixN A B C E G I (6 * l + k - 6 * jx) else wt (6 * l + k)) = wt (6 * l + k)
          rw [if_neg (by omega)])
    · show _ = nI (if 6 * jx ≤ j ∧ j < 6 * jx + 6 then sixN A B C E G I (j - 6 * jx) else wt j)
      rw [set6_at, if_neg (by omega), show hI (sI H1 74 0 (nI 0)) 13 j = hI H1 13 j from by simp only [hK_sI, hN_sI, hI_sI, hL_sI, hR_sI, hZ_sI, hC_sI, hS_sI, hK_sL, hN_sL, hI_sL, hL_sL, hR_sL, hZ_sL, hC_sL, hS_sL, hK_sR, hN_sR, hI_sR, hL_sR, hR_sR, hZ_sR, hC_sR, hS_sR, hK_sA, hN_sA, hI_sA, hL_sA, hR_sA, hK_sLA, hN_sLA, hI_sLA, hL_sLA, hR_sLA, up2_at, vu_at]; rw [if_neg (by omega)], e1 j]
      by_cases z : 6 * jx ≤ j ∧ j < 6 * jx + 6
      · rw [if_pos z, if_pos z, six_N]
      · rw [if_neg z, if_neg z, c3 j hj]
    · show _ = nI (if 6 * jx ≤ j ∧ j < 6 * jx + 6 then sixN A B C E G I (j - 6 * jx) else wt j)
      rw [set6_at]
      by_cases z : 6 * jx ≤ j ∧ j < 6 * jx + 6
      · rw [if_pos ⟨rfl, z.1, z.2⟩, if_pos z, six_N]
      · rw [if_neg (fun y => z ⟨y.2.1, y.2.2⟩), if_neg z, show hI (sI H1 74 0 (nI 0)) 81 j = hI H1 81 j from by simp only [hK_sI, hN_sI, hI_sI, hL_sI, hR_sI, hZ_sI, hC_sI, hS_sI, hK_sL, hN_sL, hI_sL, hL_sL, hR_sL, hZ_sL, hC_sL, hS_sL, hK_sR, hN_sR, hI_sR, hL_sR, hR_sR, hZ_sR, hC_sR, hS_sR, hK_sA, hN_sA, hI_sA, hL_sA, hR_sA, hK_sLA, hN_sLA, hI_sLA, hL_sLA, hR_sLA, up2_at, vu_at]; rw [if_neg (by omega)], w1.i 81 j rfl, m3 j hj]
  · have w : Sm sSu0 h (sI (set6 h 32 0 a b c e g i) 74 0 (nI 0)) := (set6_Sm (Sm.rf _ h) (fun _ => rfl)).wI (a := 74) _ rfl
    have w0 : Sm sSu0 h (set6 h 32 0 a b c e g i) := set6_Sm (Sm.rf _ h) (fun _ => rfl)
    refine c_weigh (D := D + 820) f p.1 cv.1 (fun _ => ⟨_, rfl, rfl, m_weigh (D := D + 820) f p.1 mv.1 (fun _ => ⟨rfl, rd0 r⟩) (fun q => absurd q G)⟩) (fun _ => ⟨_, rfl, rfl, m_weigh (D := D + 820) (w0.fr f (by decide)) p.1 ((w0.i 74 20 rfl).trans mv.1) (fun _ => ⟨rfl, r.ag (w.ag dj_su0) (w.fr f (by decide)) (me.ag (w.ag dj_su1)), rfl, rfl⟩) (fun q => absurd q G)⟩) (fun q => absurd q G)
theorem r_suspect {a b c e g i : Int32} (r : Rel h) : SmI (D + 830) 38 118 [.ref 0, .int a, .int b, .int c, .int e, .int g, .int i] [.ref 74, .int a, .int b, .int c, .int e, .int g, .int i] h := by
  obtain ⟨f, tp, ru, su, is, me, kp, n, d, ac, cl, wt, hd, fc, th, dn, wh, de, dy, xx, bf, p, cv, mv⟩ := id r
  by_cases G : twB a b c e g i = true
  · refine c_suspect (D := D + 820) f (fun q => absurd G q) (fun _ H1 w1 e1 => ?_)
    have f1 : Fr H1 := w1.fr f (by decide)
    refine ⟨_, rfl, w1.1, m_suspect (D := D + 820) f1 (fun q => absurd G q) (fun _ => ⟨rfl, ?_, w1.2.2.2.1, w1.2.2.2.2.1⟩)⟩
    have w : Sm sSu h (set6 (sI H1 74 0 (nI 0)) 82 0 a b c e g i) := set6_Sm ((w1.mn (fun u j => by simp only [sSu, Bool.or_eq_true, Bool.and_eq_true, beq_iff_eq]; omega)).wI (a := 74) _ rfl) (fun _ => rfl)
    refine ⟨w.fr f (by decide), tp.ag (w.ag dj_suT), ru.ag (w.ag dj_suU), fun j hj => ?_, is.ag (w.ag dj_suI), me.ag (w.ag dj_suE), kp.ag (w.ag dj_suK), VWr.ag ⟨n, d, ac, cl, wt, hd, fc, th, dn, wh, de, dy, xx, bf, p, cv, mv⟩ (w.ag dj_suC) (w.ag dj_suM)⟩
    rw [set6_at, set6_at, if_neg (by omega), if_pos ⟨rfl, by omega, by omega⟩, show hI (sI H1 74 0 (nI 0)) 31 j = hI H1 31 j from by simp only [hK_sI, hN_sI, hI_sI, hL_sI, hR_sI, hZ_sI, hC_sI, hS_sI, hK_sL, hN_sL, hI_sL, hL_sL, hR_sL, hZ_sL, hC_sL, hS_sL, hK_sR, hN_sR, hI_sR, hL_sR, hR_sR, hZ_sR, hC_sR, hS_sR, hK_sA, hN_sA, hI_sA, hL_sA, hR_sA, hK_sLA, hN_sLA, hI_sLA, hL_sLA, hR_sLA, up2_at, vu_at]; rw [if_neg (by omega)], e1 j hj, Nat.sub_zero]
  · have w : Sm sSu0 h (sI (set6 h 32 0 a b c e g i) 74 0 (nI 0)) := (set6_Sm (Sm.rf _ h) (fun _ => rfl)).wI (a := 74) _ rfl
    have w0 : Sm sSu0 h (set6 h 32 0 a b c e g i) := set6_Sm (Sm.rf _ h) (fun _ => rfl)
    exact c_suspect (D := D + 820) f (fun _ => ⟨_, rfl, rfl, m_suspect (D := D + 820) (w0.fr f (by decide)) (fun _ => ⟨rfl, r.ag (w.ag dj_su0) (w.fr f (by decide)) (me.ag (w.ag dj_su1)), rfl, rfl⟩) (fun q => absurd q G)⟩) (fun q => absurd q G)
theorem r_feed {a b c e g : Int32} (r : Rel h) : SmI (D + 830) 1 86 [.ref 0, .int a, .int b, .int c, .int e, .int g] [.ref 74, .int a, .int b, .int c, .int e, .int g] h := by
  obtain ⟨f, ⟨T, tc, tm⟩, ru, su, is, me, kp, v⟩ := id r
  by_cases G : T.1 + fdN a b c e g ≤ 120
  · refine c_feed (D := D + 820) f tc (fun q => absurd q (by omega)) (fun _ H1 w1 t1 => ?_)
    have f1 : Fr H1 := w1.fr f (by decide)
    have tm1 : TM H1 T := ⟨tm.1, (w1.i 74 6 rfl).trans tm.2.1, fun j hj => by rw [w1.i 75 j rfl]; exact tm.2.2 j hj⟩
    refine ⟨_, rfl, w1.1, m_feed (D := D + 820) f1 tm1 (fun q => absurd q (by omega)) (fun _ H2 w2 t2 => ⟨rfl, ?_, w2.2.2.2.1.trans w1.2.2.2.1, w2.2.2.2.2.1.trans w1.2.2.2.2.1⟩)⟩
    have w : Sm sTp h H2 := (w1.mn (fun u j z => by simp only [sTp, z, Bool.true_or])).tr (w2.mn (fun u j z => by simp only [sTp, z, Bool.or_true]))
    exact r.tp (w.ag dj_tp) (w.fr f (by decide)) ⟨_, ⟨t1.1, (w2.i 1 1 rfl).trans t1.2.1, fun j hj => by rw [w2.i 2 j rfl]; exact t1.2.2 j hj⟩, t2⟩
  · exact c_feed (D := D + 820) f tc (fun _ => ⟨_, rfl, rfl, m_feed (D := D + 820) f tm (fun _ => ⟨rfl, rd0 r⟩) (fun q => absurd q G)⟩) (fun q => absurd q G)
theorem r_end {x : Int32} (r : Rel h) : SmI (D + 830) 2 87 [.ref 0, .int x] [.ref 74, .int x] h := by
  obtain ⟨f, ⟨T, tc, tm⟩, ru, su, is, me, kp, v⟩ := id r
  cases G : dIn (T.1 + 1) x
  · exact c_end (D := D + 820) f tc (fun _ => ⟨_, rfl, rfl, m_end (D := D + 820) f tm (fun _ => ⟨rfl, rd0 r⟩) (fun q => by rw [G] at q; cases q)⟩) (fun q => by rw [G] at q; cases q)
  · refine c_end (D := D + 820) f tc (fun q => by rw [G] at q; cases q) (fun _ => ⟨_, rfl, rfl, m_end (D := D + 820) (h := sI h 1 1 x) f tm (fun q => by rw [G] at q; cases q) (fun _ => ⟨rfl, ?_, rfl, rfl⟩)⟩)
    have t0 := tc.1
    obtain ⟨j, hj, rfl⟩ := dIn_get (by omega) G
    have w : Sm sTp h (sI (sI (sI h 1 1 (nI j)) 74 0 (nI 0)) 74 6 (nI j)) := (((Sm.rf _ h).wI (a := 1) _ rfl).wI (a := 74) _ rfl).wI (a := 74) _ rfl
    exact r.tp (w.ag dj_tp) f ⟨(j, T.2), tc.cut hj, TM.cut (h := sI (sI h 1 1 (nI j)) 74 0 (nI 0)) tm hj⟩
end
