/-! The questions: both sides the same. -/
section
variable {D : Nat} {h h1 h2 : Hp}
theorem dj_ch : ∀ u j, rA u j = true → sCh u j = false := fun u j z => by
  cases q : sCh u j
  · rfl
  · simp only [rA, rT, rU, rS, rI, rK, rKc, rKm, rC, rM, Bool.or_eq_true, Bool.and_eq_true, beq_iff_eq] at z
    simp only [sCh, sLd, sTo, sAk, Bool.or_eq_true, Bool.and_eq_true, beq_iff_eq] at q
    omega
theorem dj_mo : ∀ u j, rA u j = true → sMo u j = false := fun u j z => by
  cases q : sMo u j
  · rfl
  · simp only [rA, rT, rU, rS, rI, rK, rKc, rKm, rC, rM, Bool.or_eq_true, Bool.and_eq_true, beq_iff_eq] at z
    simp only [sMo, sT2, sT, Bool.or_eq_true, Bool.and_eq_true, beq_iff_eq] at q
    omega
theorem dj_che : ∀ u j, rE u j = true → sCh u j = false := fun u j z => by
  simp only [rE, Bool.and_eq_true, beq_iff_eq] at z
  obtain ⟨rfl, rfl⟩ := z
  rfl
section
variable {n d ac : Nat} {cl wt hd fc th dn wh de dy : Nat → Nat} {x : Int64} {bf : Nat → Int64}
theorem rq1 (f : Fr h) (e : MEr h) (s1 : Sm sCh h h1) (p : PI n d ac cl wt hd fc dn wh de dy) (mv : MV h n d ac cl wt hd fc th wh de dy x bf) : MOK h1 n cl wt (ysD d hd) := (mv.ag ((s1.ag dj_ch).mono (fun u j z => by simp only [rA, z, Bool.true_or, Bool.or_true]))).mok (s1.fr f (by decide)) (e.ag (s1.ag dj_che)) p
theorem rq2 (r : Rel h) (s1 : Sm sCh h h1) (s2 : Sm sMo h1 h2) (o : MOK h2 n cl wt (ysD d hd)) : Rel h2 ∧ hC h2 = hC h ∧ hS h2 = hS h := ⟨r.ag ((s1.ag dj_ch).tr (s2.ag dj_mo)) o.1.1 o.2.2, s2.2.2.2.1.trans s1.2.2.2.1, s2.2.2.2.2.1.trans s1.2.2.2.2.1⟩
end
theorem r_holds {x y z : Int32} (r : Rel h) : SmL (D + 830) 22 153 [.ref 0, .int x, .int y, .int z] [.ref 74, .int x, .int y, .int z] h := by
  obtain ⟨f, tp, ru, su, is, me, kp, n, d, ac, cl, wt, hd, fc, th, dn, wh, de, dy, xx, bf, p, cv, mv⟩ := id r
  by_cases G : gHo n x y z
  · exact c_holds (D := D + 786) (cv.cok f p) (fun h1 s1 => ⟨fun _ => ⟨_, rfl, s1.1, m_holds (D := D + 806) (rq1 f me s1 p mv) (fun h2 s2 o2 => ⟨fun _ => ⟨rfl, rq2 r s1 s2 o2⟩, fun z => absurd G z⟩)⟩, fun z => absurd G z⟩)
  · exact c_holds (D := D + 786) (cv.cok f p) (fun h1 s1 => ⟨fun z => absurd z G, fun _ => ⟨_, rfl, s1.1, m_holds (D := D + 806) (rq1 f me s1 p mv) (fun h2 s2 o2 => ⟨fun z => absurd z G, fun _ => ⟨rfl, rq2 r s1 s2 o2⟩⟩)⟩⟩)
theorem r_again {x z : Int32} (r : Rel h) : SmL (D + 830) 23 154 [.ref 0, .int x, .int z] [.ref 74, .int x, .int z] h := by
  obtain ⟨f, tp, ru, su, is, me, kp, n, d, ac, cl, wt, hd, fc, th, dn, wh, de, dy, xx, bf, p, cv, mv⟩ := id r
  by_cases G : gAg n x z
  · exact c_again (D := D + 786) (cv.cok f p) (fun h1 s1 => ⟨fun _ => ⟨_, rfl, s1.1, m_again (D := D + 806) (rq1 f me s1 p mv) (fun h2 s2 o2 => ⟨fun _ => ⟨rfl, rq2 r s1 s2 o2⟩, fun z => absurd G z⟩)⟩, fun z => absurd G z⟩)
  · exact c_again (D := D + 786) (cv.cok f p) (fun h1 s1 => ⟨fun z => absurd z G, fun _ => ⟨_, rfl, s1.1, m_again (D := D + 806) (rq1 f me s1 p mv) (fun h2 s2 o2 => ⟨fun z => absurd z G, fun _ => ⟨rfl, rq2 r s1 s2 o2⟩⟩)⟩⟩)
theorem r_sure {x : Int32} (r : Rel h) : SmI (D + 830) 24 155 [.ref 0, .int x] [.ref 74, .int x] h := by
  obtain ⟨f, tp, ru, su, is, me, kp, n, d, ac, cl, wt, hd, fc, th, dn, wh, de, dy, xx, bf, p, cv, mv⟩ := id r
  by_cases G : gSu n x
  · exact c_sure (D := D + 786) (cv.cok f p) (fun h1 s1 => ⟨fun _ => ⟨_, rfl, s1.1, m_sure (D := D + 806) (rq1 f me s1 p mv) (fun h2 s2 o2 => ⟨fun _ => ⟨rfl, rq2 r s1 s2 o2⟩, fun z => absurd G z⟩)⟩, fun z => absurd G z⟩)
  · exact c_sure (D := D + 786) (cv.cok f p) (fun h1 s1 => ⟨fun z => absurd z G, fun _ => ⟨_, rfl, s1.1, m_sure (D := D + 806) (rq1 f me s1 p mv) (fun h2 s2 o2 => ⟨fun z => absurd z G, fun _ => ⟨rfl, rq2 r s1 s2 o2⟩⟩)⟩⟩)
theorem r_value {x y g k : Int32} (r : Rel h) : SmL (D + 830) 26 158 [.ref 0, .int x, .int y, .int g, .int k] [.ref 74, .int x, .int y, .int g, .int k] h := by
  obtain ⟨f, tp, ru, su, is, me, kp, n, d, ac, cl, wt, hd, fc, th, dn, wh, de, dy, xx, bf, p, cv, mv⟩ := id r
  by_cases G : gVal n x y g k
  · exact c_value (D := D + 786) (cv.cok f p) (fun h1 s1 => ⟨fun _ => ⟨_, rfl, s1.1, m_value (D := D + 806) (rq1 f me s1 p mv) (fun h2 s2 o2 => ⟨fun _ => ⟨rfl, rq2 r s1 s2 o2⟩, fun z => absurd G z⟩)⟩, fun z => absurd G z⟩)
  · exact c_value (D := D + 786) (cv.cok f p) (fun h1 s1 => ⟨fun z => absurd z G, fun _ => ⟨_, rfl, s1.1, m_value (D := D + 806) (rq1 f me s1 p mv) (fun h2 s2 o2 => ⟨fun z => absurd z G, fun _ => ⟨rfl, rq2 r s1 s2 o2⟩⟩)⟩⟩)
theorem r_given {x y z w : Int32} (r : Rel h) : SmL (D + 830) 28 172 [.ref 0, .int x, .int y, .int z, .int w] [.ref 74, .int x, .int y, .int z, .int w] h := by
  obtain ⟨f, tp, ru, su, is, me, kp, n, d, ac, cl, wt, hd, fc, th, dn, wh, de, dy, xx, bf, p, cv, mv⟩ := id r
  by_cases G : gGi n x y z w
  · exact c_given (D := D + 786) (cv.cok f p) (fun h1 s1 => ⟨fun _ => ⟨_, rfl, s1.1, m_given (D := D + 806) (rq1 f me s1 p mv) (fun h2 s2 o2 => ⟨fun _ => ⟨rfl, rq2 r s1 s2 o2⟩, fun z => absurd G z⟩)⟩, fun z => absurd G z⟩)
  · exact c_given (D := D + 786) (cv.cok f p) (fun h1 s1 => ⟨fun z => absurd z G, fun _ => ⟨_, rfl, s1.1, m_given (D := D + 806) (rq1 f me s1 p mv) (fun h2 s2 o2 => ⟨fun z => absurd z G, fun _ => ⟨rfl, rq2 r s1 s2 o2⟩⟩)⟩⟩)
theorem r_harm {x : Int32} (r : Rel h) : SmI (D + 830) 29 173 [.ref 0, .int x] [.ref 74, .int x] h := by
  obtain ⟨f, tp, ru, su, is, me, kp, n, d, ac, cl, wt, hd, fc, th, dn, wh, de, dy, xx, bf, p, cv, mv⟩ := id r
  by_cases G : gHm n x
  · exact c_harm (D := D + 786) (cv.cok f p) (fun h1 s1 => ⟨fun _ => ⟨_, rfl, s1.1, m_harm (D := D + 806) (rq1 f me s1 p mv) (fun h2 s2 o2 => ⟨fun _ => ⟨rfl, rq2 r s1 s2 o2⟩, fun z => absurd G z⟩)⟩, fun z => absurd G z⟩)
  · exact c_harm (D := D + 786) (cv.cok f p) (fun h1 s1 => ⟨fun z => absurd z G, fun _ => ⟨_, rfl, s1.1, m_harm (D := D + 806) (rq1 f me s1 p mv) (fun h2 s2 o2 => ⟨fun z => absurd z G, fun _ => ⟨rfl, rq2 r s1 s2 o2⟩⟩)⟩⟩)
theorem r_likeliest {x : Int32} (r : Rel h) : SmL (D + 830) 30 175 [.ref 0, .int x] [.ref 74, .int x] h := by
  obtain ⟨f, tp, ru, su, is, me, kp, n, d, ac, cl, wt, hd, fc, th, dn, wh, de, dy, xx, bf, p, cv, mv⟩ := id r
  by_cases G : gLk n x
  · exact c_likeliest (D := D + 786) (cv.cok f p) (fun h1 s1 => ⟨fun _ => ⟨_, rfl, s1.1, m_likeliest (D := D + 806) (rq1 f me s1 p mv) (fun h2 s2 o2 => ⟨fun _ => ⟨rfl, rq2 r s1 s2 o2⟩, fun z => absurd G z⟩)⟩, fun z => absurd G z⟩)
  · exact c_likeliest (D := D + 786) (cv.cok f p) (fun h1 s1 => ⟨fun z => absurd z G, fun _ => ⟨_, rfl, s1.1, m_likeliest (D := D + 806) (rq1 f me s1 p mv) (fun h2 s2 o2 => ⟨fun z => absurd z G, fun _ => ⟨rfl, rq2 r s1 s2 o2⟩⟩)⟩⟩)
theorem r_apart {x y : Int32} (r : Rel h) : SmI (D + 830) 31 176 [.ref 0, .int x, .int y] [.ref 74, .int x, .int y] h := by
  obtain ⟨f, tp, ru, su, is, me, kp, n, d, ac, cl, wt, hd, fc, th, dn, wh, de, dy, xx, bf, p, cv, mv⟩ := id r
  by_cases G : gAp n x y
  · exact c_apart (D := D + 786) (cv.cok f p) (fun h1 s1 => ⟨fun _ => ⟨_, rfl, s1.1, m_apart (D := D + 806) (rq1 f me s1 p mv) (fun h2 s2 o2 => ⟨fun _ => ⟨rfl, rq2 r s1 s2 o2⟩, fun z => absurd G z⟩)⟩, fun z => absurd G z⟩)
  · exact c_apart (D := D + 786) (cv.cok f p) (fun h1 s1 => ⟨fun z => absurd z G, fun _ => ⟨_, rfl, s1.1, m_apart (D := D + 806) (rq1 f me s1 p mv) (fun h2 s2 o2 => ⟨fun z => absurd z G, fun _ => ⟨rfl, rq2 r s1 s2 o2⟩⟩)⟩⟩)
theorem r_mean {z : Int32} (r : Rel h) : SmL (D + 830) 32 177 [.ref 0, .int z] [.ref 74, .int z] h := by
  obtain ⟨f, tp, ru, su, is, me, kp, n, d, ac, cl, wt, hd, fc, th, dn, wh, de, dy, xx, bf, p, cv, mv⟩ := id r
  by_cases G : gMe n z
  · exact c_mean (D := D + 786) (cv.cok f p) (fun h1 s1 => ⟨fun _ => ⟨_, rfl, s1.1, m_mean (D := D + 806) (rq1 f me s1 p mv) (fun h2 s2 o2 => ⟨fun _ => ⟨rfl, rq2 r s1 s2 o2⟩, fun z => absurd G z⟩)⟩, fun z => absurd G z⟩)
  · exact c_mean (D := D + 786) (cv.cok f p) (fun h1 s1 => ⟨fun z => absurd z G, fun _ => ⟨_, rfl, s1.1, m_mean (D := D + 806) (rq1 f me s1 p mv) (fun h2 s2 o2 => ⟨fun z => absurd z G, fun _ => ⟨rfl, rq2 r s1 s2 o2⟩⟩)⟩⟩)
theorem r_amended {x y z w : Int32} (r : Rel h) : SmL (D + 830) 42 168 [.ref 0, .int x, .int y, .int z, .int w] [.ref 74, .int x, .int y, .int z, .int w] h := by
  obtain ⟨f, tp, ru, su, is, me, kp, n, d, ac, cl, wt, hd, fc, th, dn, wh, de, dy, xx, bf, p, cv, mv⟩ := id r
  by_cases G : gAm n x y z w
  · exact c_amended (D := D + 786) (cv.cok f p) (fun h1 s1 => ⟨fun _ => ⟨_, rfl, s1.1, m_amended (D := D + 806) (rq1 f me s1 p mv) (fun h2 s2 o2 => ⟨fun _ => ⟨rfl, rq2 r s1 s2 o2⟩, fun z => absurd G z⟩)⟩, fun z => absurd G z⟩)
  · exact c_amended (D := D + 786) (cv.cok f p) (fun h1 s1 => ⟨fun z => absurd z G, fun _ => ⟨_, rfl, s1.1, m_amended (D := D + 806) (rq1 f me s1 p mv) (fun h2 s2 o2 => ⟨fun z => absurd z G, fun _ => ⟨rfl, rq2 r s1 s2 o2⟩⟩)⟩⟩)
theorem r_change {x y z w : Int32} (r : Rel h) : SmL (D + 830) 43 178 [.ref 0, .int x, .int y, .int z, .int w] [.ref 74, .int x, .int y, .int z, .int w] h := by
  obtain ⟨f, tp, ru, su, is, me, kp, n, d, ac, cl, wt, hd, fc, th, dn, wh, de, dy, xx, bf, p, cv, mv⟩ := id r
  by_cases G : gCg n wt x y z w
  · exact c_change (D := D + 786) (cv.cok f p) (fun h1 s1 => ⟨fun _ => ⟨_, rfl, s1.1, m_change (D := D + 806) (rq1 f me s1 p mv) (fun h2 s2 o2 => ⟨fun _ => ⟨rfl, rq2 r s1 s2 o2⟩, fun z => absurd G z⟩)⟩, fun z => absurd G z⟩)
  · exact c_change (D := D + 786) (cv.cok f p) (fun h1 s1 => ⟨fun z => absurd z G, fun _ => ⟨_, rfl, s1.1, m_change (D := D + 806) (rq1 f me s1 p mv) (fun h2 s2 o2 => ⟨fun z => absurd z G, fun _ => ⟨rfl, rq2 r s1 s2 o2⟩⟩)⟩⟩)
theorem r_help {x y : Int32} (r : Rel h) : SmL (D + 830) 44 169 [.ref 0, .int x, .int y] [.ref 74, .int x, .int y] h := by
  obtain ⟨f, tp, ru, su, is, me, kp, n, d, ac, cl, wt, hd, fc, th, dn, wh, de, dy, xx, bf, p, cv, mv⟩ := id r
  by_cases G : gHe n x y
  · exact c_help (D := D + 786) (cv.cok f p) (fun h1 s1 => ⟨fun _ => ⟨_, rfl, s1.1, m_help (D := D + 806) (rq1 f me s1 p mv) (fun h2 s2 o2 => ⟨fun _ => ⟨rfl, rq2 r s1 s2 o2⟩, fun z => absurd G z⟩)⟩, fun z => absurd G z⟩)
  · exact c_help (D := D + 786) (cv.cok f p) (fun h1 s1 => ⟨fun z => absurd z G, fun _ => ⟨_, rfl, s1.1, m_help (D := D + 806) (rq1 f me s1 p mv) (fun h2 s2 o2 => ⟨fun z => absurd z G, fun _ => ⟨rfl, rq2 r s1 s2 o2⟩⟩)⟩⟩)
theorem r_odds {x y z : Int32} (r : Rel h) : SmL (D + 830) 19 150 [.ref 0, .int x, .int y, .int z] [.ref 74, .int x, .int y, .int z] h := by
  obtain ⟨f, tp, ru, su, is, me, kp, n, d, ac, cl, wt, hd, fc, th, dn, wh, de, dy, xx, bf, p, cv, mv⟩ := id r
  have e : (0 < n ∧ dIn 6 x = true ∧ dIn 3 y = true ∧ dIn 2 z = true) = (0 < n ∧ dIn 2 z = true ∧ dIn 6 x = true ∧ dIn 3 y = true) := propext ⟨fun ⟨a, b, c, d⟩ => ⟨a, d, b, c⟩, fun ⟨a, d, b, c⟩ => ⟨a, b, c, d⟩⟩
  refine c_odds (D := D + 786) (cv.cok f p) (fun h1 s1 => ⟨_, rfl, s1.1, m_odds (D := D + 806) (rq1 f me s1 p mv) (fun h2 s2 o2 => ⟨?_, rq2 r s1 s2 o2⟩)⟩)
  by_cases G : 0 < n ∧ dIn 6 x = true ∧ dIn 3 y = true ∧ dIn 2 z = true
  · rw [if_pos G, if_pos (e ▸ G)]
  · rw [if_neg G, if_neg (e ▸ G)]
theorem r_both {x y z : Int32} (r : Rel h) : SmL (D + 830) 20 151 [.ref 0, .int x, .int y, .int z] [.ref 74, .int x, .int y, .int z] h := by
  obtain ⟨f, tp, ru, su, is, me, kp, n, d, ac, cl, wt, hd, fc, th, dn, wh, de, dy, xx, bf, p, cv, mv⟩ := id r
  have e : (0 < n ∧ dIn 6 x = true ∧ dIn 6 y = true ∧ ¬ x = y ∧ dIn 2 z = true) = (0 < n ∧ dIn 2 z = true ∧ dIn 6 x = true ∧ dIn 6 y = true ∧ ¬ x = y) := propext ⟨fun ⟨a, b, c, e, d⟩ => ⟨a, d, b, c, e⟩, fun ⟨a, d, b, c, e⟩ => ⟨a, b, c, e, d⟩⟩
  refine c_both (D := D + 786) (cv.cok f p) (fun h1 s1 => ⟨_, rfl, s1.1, m_both (D := D + 806) (rq1 f me s1 p mv) (fun h2 s2 o2 => ⟨?_, rq2 r s1 s2 o2⟩)⟩)
  by_cases G : 0 < n ∧ dIn 6 x = true ∧ dIn 6 y = true ∧ ¬ x = y ∧ dIn 2 z = true
  · rw [if_pos G, if_pos (e ▸ G)]
  · rw [if_neg G, if_neg (e ▸ G)]
theorem r_free {z : Int32} (r : Rel h) : SmL (D + 830) 21 152 [.ref 0, .int z] [.ref 74, .int z] h := by
  obtain ⟨f, tp, ru, su, is, me, kp, n, d, ac, cl, wt, hd, fc, th, dn, wh, de, dy, xx, bf, p, cv, mv⟩ := id r
  exact c_free (D := D + 786) (cv.cok f p) (fun h1 s1 => ⟨_, rfl, s1.1, m_free (D := D + 806) (rq1 f me s1 p mv) (fun h2 s2 o2 => ⟨rfl, rq2 r s1 s2 o2⟩)⟩)
theorem r_waits {x y : Int32} (r : Rel h) : SmI (D + 830) 25 157 [.ref 0, .int x, .int y] [.ref 74, .int x, .int y] h := by
  obtain ⟨f, tp, ru, su, is, me, kp, n, d, ac, cl, wt, hd, fc, th, dn, wh, de, dy, xx, bf, p, cv, mv⟩ := id r
  exact c_waits (D := D + 786) (cv.cok f p) (fun h1 s1 => ⟨_, rfl, s1.1, m_waits (D := D + 806) (rq1 f me s1 p mv) (fun h2 s2 o2 => ⟨rfl, rq2 r s1 s2 o2⟩)⟩)
def s00 (u j : Nat) : Bool := u == 74 && j == 0
theorem dj_00 : ∀ u j, rA u j = true → s00 u j = false := fun u j z => by
  cases q : s00 u j
  · rfl
  · simp only [rA, rT, rU, rS, rI, rK, rKc, rKm, rC, rM, Bool.or_eq_true, Bool.and_eq_true, beq_iff_eq] at z
    simp only [s00, Bool.and_eq_true, beq_iff_eq] at q
    omega
theorem rd0 (r : Rel h) : Rel (sI h 74 0 (nI 0)) ∧ hC (sI h 74 0 (nI 0)) = hC h ∧ hS (sI h 74 0 (nI 0)) = hS h := by
  have w : Sm s00 h (sI h 74 0 (nI 0)) := (Sm.rf _ h).wI (a := 74) _ rfl
  exact ⟨r.ag (w.ag dj_00) r.1 r.2.2.2.2.2.1, rfl, rfl⟩
theorem r_deed {x y z : Int32} (r : Rel h) : SmI (D + 830) 18 140 [.ref 0, .int x, .int y, .int z] [.ref 74, .int x, .int y, .int z] h := by
  obtain ⟨f, tp, ru, su, is, me, kp, n, d, ac, cl, wt, hd, fc, th, dn, wh, de, dy, xx, bf, p, cv, mv⟩ := id r
  by_cases G : gDe d x y z
  · exact c_deed (D := D + 820) (cv.dc f p) (fun z => absurd G z) (fun _ => ⟨_, rfl, rfl, m_deed (D := D + 820) (mv.dm f p) (fun z => absurd G z) (fun _ => ⟨rfl, rd0 r⟩)⟩)
  · exact c_deed (D := D + 820) (cv.dc f p) (fun _ => ⟨_, rfl, rfl, m_deed (D := D + 820) (mv.dm f p) (fun _ => ⟨rfl, rd0 r⟩) (fun z => absurd z G)⟩) (fun z => absurd z G)
theorem r_day {x y : Int32} (r : Rel h) : SmI (D + 830) 16 136 [.ref 0, .int x, .int y] [.ref 74, .int x, .int y] h := by
  obtain ⟨f, tp, ru, su, is, me, kp, n, d, ac, cl, wt, hd, fc, th, dn, wh, de, dy, xx, bf, p, cv, mv⟩ := id r
  by_cases G : gDa d x y
  · exact c_day (D := D + 820) (cv.dc f p) (fun z => absurd G z) (fun _ => ⟨_, rfl, rfl, m_day (D := D + 820) (mv.dm f p) (fun z => absurd G z) (fun _ => ⟨rfl, rd0 r⟩)⟩)
  · exact c_day (D := D + 820) (cv.dc f p) (fun _ => ⟨_, rfl, rfl, m_day (D := D + 820) (mv.dm f p) (fun _ => ⟨rfl, rd0 r⟩) (fun z => absurd z G)⟩) (fun z => absurd z G)
theorem r_held {x y : Int32} (r : Rel h) : SmI (D + 830) 17 137 [.ref 0, .int x, .int y] [.ref 74, .int x, .int y] h := by
  obtain ⟨f, tp, ru, su, is, me, kp, n, d, ac, cl, wt, hd, fc, th, dn, wh, de, dy, xx, bf, p, cv, mv⟩ := id r
  by_cases G : gHl n d x y
  · exact c_held (D := D + 820) (cv.dc f p) (fun z => absurd G z) (fun _ => ⟨_, rfl, rfl, m_held (D := D + 820) (mv.dm f p) (fun z => absurd G z) (fun _ => ⟨rfl, rd0 r⟩)⟩)
  · exact c_held (D := D + 820) (cv.dc f p) (fun _ => ⟨_, rfl, rfl, m_held (D := D + 820) (mv.dm f p) (fun _ => ⟨rfl, rd0 r⟩) (fun z => absurd z G)⟩) (fun z => absurd z G)
theorem r_run {x y : Int32} (r : Rel h) : SmI (D + 830) 49 179 [.ref 0, .int x, .int y] [.ref 74, .int x, .int y] h := by
  obtain ⟨f, tp, ru, su, is, me, kp, n, d, ac, cl, wt, hd, fc, th, dn, wh, de, dy, xx, bf, p, cv, mv⟩ := id r
  by_cases G : gRu x y
  · exact c_run (D := D + 820) (cv.dc f p) (fun z => absurd G z) (fun _ => ⟨_, rfl, rfl, m_run (D := D + 820) (mv.dm f p) (fun z => absurd G z) (fun _ => ⟨rfl, rd0 r⟩)⟩)
  · exact c_run (D := D + 820) (cv.dc f p) (fun _ => ⟨_, rfl, rfl, m_run (D := D + 820) (mv.dm f p) (fun _ => ⟨rfl, rd0 r⟩) (fun z => absurd z G)⟩) (fun z => absurd z G)
theorem r_peace {x : Int32} (r : Rel h) : SmI (D + 830) 50 181 [.ref 0, .int x] [.ref 74, .int x] h := by
  obtain ⟨f, tp, ru, su, is, me, kp, n, d, ac, cl, wt, hd, fc, th, dn, wh, de, dy, xx, bf, p, cv, mv⟩ := id r
  by_cases G : dIn 2 x = true
  · exact c_peace (D := D + 820) (cv.dc f p) (fun z => absurd G z) (fun _ => ⟨_, rfl, rfl, m_peace (D := D + 820) (mv.dm f p) (fun z => absurd G z) (fun _ => ⟨rfl, rd0 r⟩)⟩)
  · exact c_peace (D := D + 820) (cv.dc f p) (fun _ => ⟨_, rfl, rfl, m_peace (D := D + 820) (mv.dm f p) (fun _ => ⟨rfl, rd0 r⟩) (fun z => absurd z G)⟩) (fun z => absurd z G)
theorem r_suit {x i : Int32} (r : Rel h) : SmI (D + 830) 36 162 [.ref 0, .int x, .int i] [.ref 74, .int x, .int i] h := by
  obtain ⟨f, tp, ru, su, is, me, kp, n, d, ac, cl, wt, hd, fc, th, dn, wh, de, dy, xx, bf, p, cv, mv⟩ := id r
  by_cases G : gSt x i
  · exact c_suit (D := D + 820) (cv.dc f p) (cv.ca p) (fun z => absurd G z) (fun _ => ⟨_, rfl, rfl, m_suit (D := D + 820) (mv.dm f p) (mv.ma p) p.2.2.2.2.2.2.2.2.2.2.1 (fun z => absurd G z) (fun _ => ⟨rfl, rd0 r⟩)⟩)
  · exact c_suit (D := D + 820) (cv.dc f p) (cv.ca p) (fun _ => ⟨_, rfl, rfl, m_suit (D := D + 820) (mv.dm f p) (mv.ma p) p.2.2.2.2.2.2.2.2.2.2.1 (fun _ => ⟨rfl, rd0 r⟩) (fun z => absurd z G)⟩) (fun z => absurd z G)
theorem r_idle {x : Int32} (r : Rel h) : SmI (D + 830) 37 182 [.ref 0, .int x] [.ref 74, .int x] h := by
  obtain ⟨f, tp, ru, su, is, me, kp, n, d, ac, cl, wt, hd, fc, th, dn, wh, de, dy, xx, bf, p, cv, mv⟩ := id r
  by_cases G : dIn 6 x = true
  · exact c_idle (D := D + 820) (cv.dc f p) (cv.ca p) (fun z => absurd G z) (fun _ => ⟨_, rfl, rfl, m_idle (D := D + 820) (mv.dm f p) (cv.ca p) (mv.ma p) p.2.2.2.2.2.2.2.2.2.2.1 (fun z => absurd G z) (fun _ => ⟨rfl, rd0 r⟩)⟩)
  · exact c_idle (D := D + 820) (cv.dc f p) (cv.ca p) (fun _ => ⟨_, rfl, rfl, m_idle (D := D + 820) (mv.dm f p) (cv.ca p) (mv.ma p) p.2.2.2.2.2.2.2.2.2.2.1 (fun _ => ⟨rfl, rd0 r⟩) (fun z => absurd z G)⟩) (fun z => absurd z G)
theorem r_named {x y z : Int32} (r : Rel h) : SmI (D + 830) 39 165 [.ref 0, .int x, .int y, .int z] [.ref 74, .int x, .int y, .int z] h := by
  obtain ⟨f, tp, ru, su, is, me, kp, n, d, ac, cl, wt, hd, fc, th, dn, wh, de, dy, xx, bf, p, cv, mv⟩ := id r
  by_cases G : gNm n d x y z
  · exact c_named (D := D + 820) (cv.dc f p) (fun j hj => su j hj) (fun z => absurd G z) (fun _ => ⟨_, rfl, rfl, m_named (D := D + 820) (mv.dm f p) (fun _ _ => rfl) (fun z => absurd G z) (fun _ => ⟨rfl, rd0 r⟩)⟩)
  · exact c_named (D := D + 820) (cv.dc f p) (fun j hj => su j hj) (fun _ => ⟨_, rfl, rfl, m_named (D := D + 820) (mv.dm f p) (fun _ _ => rfl) (fun _ => ⟨rfl, rd0 r⟩) (fun z => absurd z G)⟩) (fun z => absurd z G)
theorem r_enough {x z : Int32} (r : Rel h) : SmI (D + 830) 40 166 [.ref 0, .int x, .int z] [.ref 74, .int x, .int z] h := by
  obtain ⟨f, tp, ru, su, is, me, kp, n, d, ac, cl, wt, hd, fc, th, dn, wh, de, dy, xx, bf, p, cv, mv⟩ := id r
  by_cases G : gEn n x z
  · exact c_enough (D := D + 820) (cv.dc f p) (fun j hj => su j hj) (fun z => absurd G z) (fun _ => ⟨_, rfl, rfl, m_enough (D := D + 820) (mv.dm f p) (fun _ _ => rfl) (fun z => absurd G z) (fun _ => ⟨rfl, rd0 r⟩)⟩)
  · exact c_enough (D := D + 820) (cv.dc f p) (fun j hj => su j hj) (fun _ => ⟨_, rfl, rfl, m_enough (D := D + 820) (mv.dm f p) (fun _ _ => rfl) (fun _ => ⟨rfl, rd0 r⟩) (fun z => absurd z G)⟩) (fun z => absurd z G)
theorem r_busiest (r : Rel h) : SmI (D + 830) 51 183 [.ref 0] [.ref 74] h := by
  obtain ⟨f, tp, ru, su, is, me, kp, n, d, ac, cl, wt, hd, fc, th, dn, wh, de, dy, xx, bf, p, cv, mv⟩ := id r
  exact c_busiest (D := D + 820) (cv.dc f p) ⟨_, rfl, rfl, m_busiest (D := D + 820) (mv.dm f p) ⟨rfl, rd0 r⟩⟩
theorem r_weight {x y : Int32} (r : Rel h) : SmI (D + 830) 10 117 [.ref 0, .int x, .int y] [.ref 74, .int x, .int y] h := by
  obtain ⟨f, tp, ru, su, is, me, kp, n, d, ac, cl, wt, hd, fc, th, dn, wh, de, dy, xx, bf, p, cv, mv⟩ := id r
  by_cases G : gCe n x y
  · refine c_weight (D := D + 820) f p.1 cv.1 (fun z => absurd G z) (fun _ => ⟨_, rfl, rfl, m_weight (D := D + 820) f p.1 mv.1 (fun z => absurd G z) (fun _ => ⟨?_, rd0 r⟩)⟩)
    obtain ⟨gx, gy⟩ := G
    obtain ⟨jx, bx, rfl⟩ := dIn_get (by have := p.1; omega) gx
    obtain ⟨jy, by', rfl⟩ := dIn_get (by decide) gy
    have n5 := p.1
    rw [tN_nI (by omega), tN_nI (by omega), cv.2.2.1 _ (by omega), mv.2.2.1 _ (by omega)]
  · exact c_weight (D := D + 820) f p.1 cv.1 (fun _ => ⟨_, rfl, rfl, m_weight (D := D + 820) f p.1 mv.1 (fun _ => ⟨rfl, rd0 r⟩) (fun z => absurd z G)⟩) (fun z => absurd z G)
theorem r_count {x : Int32} (r : Rel h) : SmI (D + 830) 54 188 [.ref 0, .int x] [.ref 74, .int x] h := by
  obtain ⟨f, ⟨T, tc, tm⟩, ⟨m, LL, TT, m4, m1, m2, rr⟩, su, is, me, kp, n, d, ac, cl, wt, hd, fc, th, dn, wh, de, dy, xx, bf, p, cv, mv⟩ := id r
  by_cases G : dIn 5 x = true
  · refine c_count (D := D + 829) f (fun z => absurd G z) (fun _ => ⟨_, rfl, rfl, m_count (D := D + 829) f (fun z => absurd G z) (fun _ => ⟨?_, rd0 r⟩)⟩)
    rw [cv.1, mv.1, m1, m2, tc.2.1, tm.2.1, cv.2.2.2.2.2.1, mv.2.2.2.2.2.2.1, cv.2.2.2.2.2.2.1, mv.2.2.2.2.2.2.2.1]
  · exact c_count (D := D + 829) f (fun _ => ⟨_, rfl, rfl, m_count (D := D + 829) f (fun _ => ⟨rfl, rd0 r⟩) (fun z => absurd z G)⟩) (fun z => absurd z G)
end
