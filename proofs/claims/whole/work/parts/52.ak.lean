/-! The class's answer to a question of so or not. -/
def sAk (a j : Nat) : Bool := a == 56 || a == 57 || a == 58 || a == 59 || a == 60 || a == 61 || a == 62 || a == 63 || a == 64 || a == 65 || (a == 36 && (j == 9 || j == 10 || j == 11 || j == 12 || j == 13 || j == 14))
theorem sAk_1 : ∀ a j, sAk a j = false → sKi a j = false := fun a j h => by
  simp only [sAk, sKi, Bool.or_eq_false_iff, Bool.and_eq_false_iff, beq_eq_false_iff_ne, ne_eq] at h ⊢
  omega
theorem sAk_2 : ∀ a j, sAk a j = false → sLy a j = false := fun a j h => by
  simp only [sAk, sLy, sLf, Bool.or_eq_false_iff, Bool.and_eq_false_iff, beq_eq_false_iff_ne, ne_eq] at h ⊢
  omega
section
variable {n : Nat} {cl wt ys to ct : Nat → Nat} {sg : Nat → Nat → Int32} {sh : Nat → Nat → Nat} {fi : Bool}
theorem mn_lot {s o t l f : Nat} (s6 : s ≠ 6) (hc : ∀ j, j < 30 → cl j ≤ 60) (hy : ∀ l, l < n → ys l < 40) (ht : t < 40) (n5 : n ≤ 5) (hl : l < n) (hf : f < 6) : lsg (fiS s) (aimN (cl (6 * l + f)) n) = (if 40 ≤ mnN s o t (setN (cl (6 * l + f)) n (ys l)) f ∧ mnN s o t (setN (cl (6 * l + f)) n (ys l)) f < 50 then some (mnN s o t (setN (cl (6 * l + f)) n (ys l)) f - 40) else none) := by
  have h1 := hc (6 * l + f) (by omega)
  have h2 := hy l hl
  have h50 : ∀ c, 50 ≤ c → mnN s o t c f = c := fun c hc => by rw [mnN, if_neg s6, if_pos (by omega), if_neg (by omega)]
  have hlt : ∀ c, c < 40 → mnN s o t c f < 40 := by
    intro c hc
    unfold mnN
    repeat' split
    all_goals omega
  unfold aimN
  by_cases q : 40 ≤ cl (6 * l + f) ∧ cl (6 * l + f) < 50 ∧ cl (6 * l + f) - 40 < n
  · have e : setN (cl (6 * l + f)) n (ys l) = cl (6 * l + f) := by
      rw [setN, if_neg (by omega), if_neg (by omega), if_pos q.1, if_pos q.2.2]
    rw [if_pos q, e, mnN, if_neg s6, if_pos q.1]
    by_cases s7 : s = 7
    · have hf : fiS s = true := decide_eq_true (Or.inr s7)
      rw [hf, if_neg (show ¬ (cl (6 * l + f) < 50 ∧ s ≠ 7) from fun z => z.2 s7), if_pos ⟨q.1, q.2.1⟩]
      rfl
    · have hf : fiS s = false := decide_eq_false (by omega)
      rw [hf, if_pos (show cl (6 * l + f) < 50 ∧ s ≠ 7 from ⟨q.2.1, s7⟩)]
      rfl
  · rw [if_neg q]
    have e : setN (cl (6 * l + f)) n (ys l) < 40 ∨ 50 ≤ setN (cl (6 * l + f)) n (ys l) := by
      unfold setN
      repeat' split
      all_goals omega
    have ln : lsg (fiS s) none = none := by cases fiS s <;> rfl
    rw [ln]
    rcases e with e | e
    · have := hlt _ e
      rw [if_neg (by omega)]
    · rw [h50 _ e, if_neg (by omega)]
/-- faces of one kind are of one lot -/
theorem mX_same {s o t : Nat} (hc : ∀ j, j < 30 → cl j ≤ 60) (hy : ∀ l, l < n → ys l < 40) (ht : t < 40) (n5 : n ≤ 5) (kp : KP (6 * n) wt (fun c => oI (lsg (fiS s) (aimN (cl c) n))) to ct sg sh) : ∀ l, l < n → ∀ f f', f < 6 → f' < 6 → wt (6 * l + f) ≠ 0 → wt (6 * l + f') ≠ 0 → nI (mX cl n ys s o t (6 * l + f)) = nI (mX cl n ys s o t (6 * l + f')) → to (6 * l + f) = to (6 * l + f') := by
  intro l hl f f' hf hf' hw hw' he
  have hmx : ∀ f, f < 6 → mX cl n ys s o t (6 * l + f) = mnN s o t (setN (cl (6 * l + f)) n (ys l)) f := fun f hf => by
    rw [mX, show (6 * l + f) / 6 = l from by omega, show (6 * l + f) % 6 = f from by omega]
  have hset : ∀ f, f < 6 → setN (cl (6 * l + f)) n (ys l) < 50 + n := fun f hf => setN_50 (hc _ (by omega)) (hy l hl) n5
  have hb : ∀ f, f < 6 → mnN s o t (setN (cl (6 * l + f)) n (ys l)) f < 100 := by
    intro f hf
    have := hset f hf
    unfold mnN
    repeat' split
    all_goals omega
  rw [hmx f hf, hmx f' hf', nI_eq (by have := hb f hf; omega) (by have := hb f' hf'; omega)] at he
  by_cases s6 : s = 6
  · rw [mnN, if_pos s6, mnN, if_pos s6] at he
    rw [he]
  · refine (KP_eq kp (by omega) hf hf' (by omega) (by omega) hw hw').mpr ?_
    rw [mn_lot s6 hc hy ht n5 hl hf, mn_lot s6 hc hy ht n5 hl hf', he]
/-- a kind that isn't all of its lot: the lot's faces have one aim -/
theorem mX_mix {s o t : Nat} {t2 c2 : Nat → Nat} {g2 : Nat → Nat → Int32} {w2 : Nat → Nat → Nat} (hc : ∀ j, j < 30 → cl j ≤ 60) (hy : ∀ l, l < n → ys l < 40) (ht : t < 40) (n5 : n ≤ 5) (kp : KP (6 * n) wt (fun c => oI (lsg (fiS s) (aimN (cl c) n))) to ct sg sh) (kp2 : KP (6 * n) wt (fun c => nI (mX cl n ys s o t c)) t2 c2 g2 w2) {l f0 : Nat} (hl : l < n) (hf0 : f0 < 6) (hw0 : wt (6 * l + f0) ≠ 0) (hne : w2 l (t2 (6 * l + f0)) ≠ sh l (to (6 * l + f0))) : ∀ f, f < 6 → wt (6 * l + f) ≠ 0 → to (6 * l + f) = to (6 * l + f0) → aiF cl n l f = aiF cl n l f0 := by
  intro f hf hw he
  have hinj : ∀ f f', lsg true (aimN (cl (6 * l + f)) n) = lsg true (aimN (cl (6 * l + f')) n) → aiF cl n l f = aiF cl n l f' := fun f f' h => h
  have hbd : ∀ (b : Bool) f, ∀ j, lsg b (aimN (cl (6 * l + f)) n) = some j → j < 2147483648 := fun b f j hj => by
    have := lsg_lt (n := n) (by omega) (fun j hj => (aimN_some hj).2) j hj
    omega
  have e1 := oI_inj (hbd _ _) (hbd _ _) ((KP_eq kp (by omega) hf hf0 (by omega) (by omega) hw hw0).mp he)
  cases hfi : fiS s
  · rw [hfi] at e1
    have s6 : s ≠ 6 := by
      intro z
      rw [fiS, z] at hfi
      cases hfi
    have s7 : s ≠ 7 := by
      intro z
      rw [fiS, z] at hfi
      cases hfi
    cases ha : aimN (cl (6 * l + f0)) n with
    | none =>
      rw [ha] at e1
      show aimN (cl (6 * l + f)) n = aimN (cl (6 * l + f0)) n
      rw [ha]
      cases hb : aimN (cl (6 * l + f)) n with
      | none => rfl
      | some x => rw [hb] at e1; cases e1
    | some d0 =>
      exfalso
      apply hne
      -- all faces of the lot throw again, and count as one kind
      have all40 : ∀ g, g < 6 → wt (6 * l + g) ≠ 0 → to (6 * l + g) = to (6 * l + f0) → mX cl n ys s o t (6 * l + g) = 40 := by
        intro g hg hwg heg
        have e2 := oI_inj (hbd _ _) (hbd _ _) ((KP_eq kp (by omega) hg hf0 (by omega) (by omega) hwg hw0).mp heg)
        rw [hfi, ha] at e2
        cases hb : aimN (cl (6 * l + g)) n with
        | none => rw [hb] at e2; cases e2
        | some x =>
          obtain ⟨z1, z2⟩ := aimN_some hb
          rw [mX, show (6 * l + g) / 6 = l from by omega, show (6 * l + g) % 6 = g from by omega, setN, if_neg (by omega), if_neg (by omega), if_pos (by omega), if_pos (by omega), mnN, if_neg s6, if_pos (by omega), if_pos ⟨by omega, s7⟩]
      have hfm2 := kp_fm n5 kp2
      have hfm := kp_fm n5 kp
      have hk2 := (hfm2 l hl).1 f0 hf0 hw0
      have hk := (hfm l hl).1 f0 hf0 hw0
      rw [(hfm2 l hl).2 _ hk2, (hfm l hl).2 _ hk]
      refine sm_congr (fun g hg => ?_)
      have hg : g < 6 := hg
      by_cases hwg : wtF wt l g = 0
      · rw [hwg]; simp
      · refine if_cgr ⟨fun z => ?_, fun z => ?_⟩
        · exact mX_same hc hy ht n5 kp l hl g f0 hg hf0 hwg hw0 ((KP_eq kp2 (by omega) hg hf0 (by omega) (by have : g < 6 := hg; omega) hwg hw0).mp z)
        · refine (KP_eq kp2 (by omega) hg hf0 (by have : g < 6 := hg; omega) (by omega) hwg hw0).mpr ?_
          rw [all40 g hg hwg z, all40 f0 hf0 hw0 rfl]
  · rw [hfi] at e1
    exact hinj f f0 e1
/-- the tally over faces -/
theorem TL_at {a : Nat} {vv : (Nat → Nat) → Nat → Nat} (φ0 : Nat → Nat) (hv : ∀ φ g g', vv φ g = vv φ g') : al k6 (wtF wt) (List.range' 0 n) (dfs n k6 (wtF wt) (aiF cl n) 3 (fun _ => false) vv) φ0 = al k6 (wtF wt) (List.range' 0 n) (fun φ => KF n k6 (wtF wt) (aiF cl n) φ * vv φ 0) φ0 := by
  rw [show vv = (fun φ _ => vv φ 0) from funext (fun φ => funext (fun g => hv φ g 0))]
  exact tally_KF (fun l f d _ h => (aimN_some h).2) _ φ0
theorem kp_12 {X : Nat → Int32} (n5 : n ≤ 5) (kp : KP (6 * n) wt X to ct sg sh) (hw : ∀ l, l < n → sm 6 (wtF wt l) = 12) : ∀ l, l < n → sm (ct l) (sh l) = 12 := by
  obtain ⟨a1, a2, a3, a4, a5⟩ := kp
  intro l hl
  have h1 := sm_merge (n := 6) (m := ct l) (w := wtF wt l) (G := fun _ => 1) (t := fun f => to (6 * l + f)) (fun f hf hw => (a2 l (by omega) f hf (by omega) hw).1)
  simp only [Nat.mul_one] at h1
  have h2 := hw l hl
  rw [show sm 6 (fun i => wtF wt l i) = sm 6 (wtF wt l) from rfl, h2] at h1
  rw [h1]
  refine sm_congr (fun k hk => ?_)
  rw [a3 l (by omega) k hk]
  exact sm_congr (fun f hf => if_cgr ⟨fun q => q.2, fun q => ⟨by omega, q⟩⟩)
theorem mtB_congr {s o t : Nat} {hd hd' : Nat → Nat} (h : ∀ l, l < n → hd l = hd' l) (on : s = 5 → o < n) : mtB n s o t hd = mtB n s o t hd' := by
  have e : ∀ j, j < n → (fun l => nI (hd l)) (0 + j) = (fun l => nI (hd' l)) (0 + j) := fun j hj => by
    simp only [Nat.zero_add, h j hj]
  unfold mtB
  rw [msB_congr (r := fun l => nI (hd l)) (r' := fun l => nI (hd' l)) e, cnt_congr (r := fun l => nI (hd l)) (r' := fun l => nI (hd' l)) n e, lwB_congr (r := fun l => nI (hd l)) (r' := fun l => nI (hd' l)) e, lwB_congr (r := fun l => nI (hd l)) (r' := fun l => nI (hd' l)) e, cnt_congr (r := fun l => nI (hd l)) (r' := fun l => nI (hd' l)) n e]
  by_cases q : s = 5
  · rw [h o (on q)]
  · simp only [if_neg q]
theorem vC_congr {s c : Nat} {mt : (Nat → Nat) → Bool} {κ κ' : Nat → Nat} (hm : mt κ = mt κ') (hk : ∀ l, l < n → κ l = κ' l) : vC n s mt c κ = vC n s mt c κ' := by
  have e : ∀ x, decide ((c - x) / 6 < n ∧ κ ((c - x) / 6) = (c - x) % 6) = decide ((c - x) / 6 < n ∧ κ' ((c - x) / 6) = (c - x) % 6) := fun x => by
    apply decide_eq_decide.mpr
    constructor
    · exact fun z => ⟨z.1, by rw [← hk _ z.1]; exact z.2⟩
    · exact fun z => ⟨z.1, by rw [hk _ z.1]; exact z.2⟩
  unfold vC
  rw [hm, e 1, e 31]
theorem mtK_congr {s o t : Nat} {gn : Nat → Nat → Nat} {κ κ' : Nat → Nat} (hk : ∀ l, l < n → κ l = κ' l) (hg : ∀ l, l < n → gn l (κ l) < 50 + n) (on : s = 5 → o < n) : mtK n s o t gn κ = mtK n s o t gn κ' :=
  mtB_congr (fun l hl => heldN_congr (fun l hl => by rw [hk l hl]) hg (n + 1) l hl) on
/-- ends by lots, divided: the ways of kinds -/
theorem ask_E {s o t : Nat} {t2 c2 : Nat → Nat} {g2 : Nat → Nat → Int32} {w2 : Nat → Nat → Nat} {fs : Nat → Nat → Nat} (hc : ∀ j, j < 30 → cl j ≤ 60) (hy : ∀ l, l < n → ys l < 40) (ht : t < 40) (n5 : n ≤ 5) (hw12 : ∀ l, l < n → sm 6 (wtF wt l) = 12) (kp : KP (6 * n) wt (fun c => oI (lsg (fiS s) (aimN (cl c) n))) to ct sg sh) (kp2 : KP (6 * n) wt (fun c => nI (mX cl n ys s o t c)) t2 c2 g2 w2) (hfs : ∀ l, l < n → ∀ k, k < c2 l → fs l k < 6 ∧ wt (6 * l + fs l k) ≠ 0 ∧ t2 (6 * l + fs l k) = k) : ∀ κ, (∀ l, l < n → κ l < c2 l) → 0 < pdN (wYF sh w2 (fun l k => to (6 * l + fs l k))) κ n ∧ TF n cl wt (fun φ g => valE ct n (ixF ct n (tF (fun l k => to (6 * l + fs l k)) κ)) (tF (loF to) φ) g) / pdN (wYF sh w2 (fun l k => to (6 * l + fs l k))) κ n * pdN (wXF sh w2 (fun l k => to (6 * l + fs l k))) κ n = MM n k6 (wtF wt) (aiF cl n) (loF t2) κ ∧ TF n cl wt (fun φ g => valE ct n (ixF ct n (tF (fun l k => to (6 * l + fs l k)) κ)) (tF (loF to) φ) g) ≤ 12 ^ (n + 3) ∧ MM n k6 (wtF wt) (aiF cl n) (loF t2) κ ≤ 12 ^ 16 := by
  intro κ hκ
  have hA : ∀ l f d, l < n → aiF cl n l f = some d → d < n := fun l f d _ h => (aimN_some h).2
  have hfm := kp_fm n5 kp
  have hfm2 := kp_fm n5 kp2
  have hq : ∀ l, l < n → tF (fun l k => to (6 * l + fs l k)) κ l < ct l := fun l hl => by
    obtain ⟨z1, z2, z3⟩ := hfs l hl (κ l) (hκ l hl)
    exact (hfm l hl).1 _ z1 z2
  have hsz := pst_7776 n5 (fun l hl => (kp.1 l (by omega)).1)
  have hlt := ix_lt n hq
  have hsq : ∀ l, l < n → sm (k6 l) (wSel (wtF wt) (loF to) (tF (fun l k => to (6 * l + fs l k)) κ) l) = sh l (tF (fun l k => to (6 * l + fs l k)) κ l) := fun l hl => ((hfm l hl).2 _ (hq l hl)).symm
  obtain ⟨B, m1, m2⟩ := MM_div (n := n) (K := k6) (W := wtF wt) (A := aiF cl n) (lo := loF to) (t := loF t2) (q := tF (fun l k => to (6 * l + fs l k)) κ) (κ := κ) (f0 := fun l => fs l (κ l)) (w2 := w2) (wq := sh) (wX := wXF sh w2 (fun l k => to (6 * l + fs l k))) (wY := wYF sh w2 (fun l k => to (6 * l + fs l k))) (fun l hl => rfl) (fun l hl => rfl) (fun l hl => (hfs l hl _ (hκ l hl)).1) (fun l hl f hf hw he => by
    obtain ⟨z1, z2, z3⟩ := hfs l hl (κ l) (hκ l hl)
    exact mX_same hc hy ht n5 kp l hl f _ hf z1 hw z2 ((KP_eq kp2 (by omega) hf z1 (by have : f < 6 := hf; omega) (by omega) hw z2).mp (by rw [z3]; exact he))) (fun l hl => ((hfm2 l hl).2 _ (hκ l hl)).symm) hsq (fun l hl hne f hf hw he => by
    obtain ⟨z1, z2, z3⟩ := hfs l hl (κ l) (hκ l hl)
    exact mX_mix hc hy ht n5 kp kp2 hl z1 z2 (by rw [z3]; exact hne) f hf hw he)
  have hE := ends_MM (K := k6) (W := wtF wt) (A := aiF cl n) hA (lo := loF to) (fun l hl f hf hw => (hfm l hl).1 f hf hw) hq (by omega)
  have hY : 0 < pdN (wYF sh w2 (fun l k => to (6 * l + fs l k))) κ n := pdN_pos n (fun l hl => by
    obtain ⟨z1, z2, z3⟩ := hfs l hl (κ l) (hκ l hl)
    unfold wYF
    split
    · exact Nat.one_pos
    · have h1 := sm_ge (n := 0) (f := wSel (wtF wt) (loF to) (tF (fun l k => to (6 * l + fs l k)) κ) l) (k6 l) (show fs l (κ l) < k6 l from z1)
      rw [hsq l hl, wSel, if_pos (show loF to l (fs l (κ l)) = tF (fun l k => to (6 * l + fs l k)) κ l from rfl)] at h1
      have h2 : wtF wt l (fs l (κ l)) ≠ 0 := z2
      have h3 : tF (fun l k => to (6 * l + fs l k)) κ l = to (6 * l + fs l (κ l)) := rfl
      rw [h3] at h1
      show 0 < sh l (to (6 * l + fs l (κ l)))
      omega)
  refine ⟨hY, ?_, ?_, ?_⟩
  · rw [TF, hE, m1, m2, Nat.mul_div_cancel_left _ hY, Nat.mul_comm]
  · exact tally_le hA (fun l hl => hw12 l hl) (fun ψ g => by
      unfold valE
      repeat' split
      all_goals omega) _
  · have h1 := tally_KF (n := n) (K := k6) (W := wtF wt) (A := aiF cl n) hA (fun φ => pdN (sel (loF t2) κ) φ n) (fun _ => 0)
    rw [MM, ← h1]
    refine Nat.le_trans (tally_le hA (fun l hl => hw12 l hl) (fun ψ g => ?_) _) (Nat.pow_le_pow_right (by decide) (by omega))
    rcases pdN_sel (t := loF t2) (κ := κ) (φ := ψ) n with z | z
    · rw [pdN_sel1 n z]
      exact Nat.le_refl 1
    · rw [z]
      exact Nat.zero_le _
set_option maxHeartbeats 4000000 in
/-- asked so or not, behind a toss -/
theorem ev_ask {D s o t a e : Nat} {h : Hp} {Q : Option Value → Hp → Prop} (q : askQ n s o t a) (tw : TW h n cl wt ys) (hy40 : ∀ l, l < n → ys l < 40) (tt : TT h n cl wt to ct sg sh (fiS s)) (hw12 : ∀ l, l < n → sm 6 (wtF wt l) = 12) (hQ : ∀ h1 t2 c2 g2 w2, Sm sAk h h1 → KP (6 * n) wt (fun c => nI (mX cl n ys s o t c)) t2 c2 g2 w2 → (∀ c, c < 6 * n → hI h1 59 c = if wt c = 0 then -nI 1 else nI (t2 c)) → HCs h1 (fun c => al k6 (wtF wt) (List.range' 0 n) (fun φ => KF n k6 (wtF wt) (aiF cl n) φ * vC n s (mtK n s o t (fun l k => (g2 l k).toNatClampNeg)) c (tF (loF t2) φ)) (fun _ => 0)) → Q (some (.long (lN (al k6 (wtF wt) (List.range' 0 n) (dfs n k6 (wtF wt) (aiF cl n) 3 (fun _ => false) (fun φ g => b01 (soB cl n ys a o t e φ g))) (fun _ => 0))))) h1) : Ev (D + 16) 196 [.ref 36, .int (nI s), .int (nI o), .int (nI t)] h Q := by
  obtain ⟨f, n5, hn, hc, hw, hy⟩ := tw
  have tw : TW h n cl wt ys := ⟨f, n5, hn, hc, hw, hy⟩
  obtain ⟨kp, kh, hto, hst, he, hfi⟩ := tt
  have hc60 : ∀ j, j < 30 → cl j ≤ 60 := fun j hj => (hc j hj).2
  have s8 : s < 8 := by unfold askQ at q; omega
  have s6 : s ≠ 6 := by unfold askQ at q; omega
  have o60 : o < 60 := by unfold askQ at q; omega
  have t40 : t < 40 := by unfold askQ at q; omega
  have on5 : s = 5 → o < n := by unfold askQ at q; omega
  have hok : askC n s o t := ⟨s8, s6, o60, by omega, on5⟩
  have c1 : ∀ (h : Hp) (Q : Option Value → Hp → Prop), Fr h → _ := fun h Q (f : Fr h) => @ev_clear (D + 13) 64 30 30 h Q (u_k64 f) (u_n64 f) (by decide) (by decide)
  have c2 : ∀ (h : Hp) (Q : Option Value → Hp → Prop), Fr h → _ := fun h Q (f : Fr h) => @ev_clear (D + 13) 65 30 30 h Q (u_k65 f) (u_n65 f) (by decide) (by decide)
  rw [Ev_body 4 rfl rfl]
  simp (disch := first | (simp only [Fr_sI, Fr_sL, Fr_sA, Fr_sLA]; assumption) | assumption | decide | omega | (simp only [List.length_cons, List.length_nil, List.drop_succ_cons, List.drop_zero, catS, Value.category, Nat.reduceAdd, Nat.reduceLT, Nat.reduceLeDiff, Nat.le_refl, and_self, and_true, true_and]; done) | (simp only [hK_sI, hN_sI, hK_sL, hN_sL, hK_sR, hN_sR, hK_sA, hN_sA, hK_sLA, hN_sLA]; first | assumption | omega)) only [ex_iadd, ex_isub, ex_imul, ex_iand, ex_ior, ex_ixor, ex_ishl, ex_ishr, ex_iushr, ex_ladd, ex_lsub, ex_lmul, ex_idiv, ex_irem, ex_ldiv, ex_lrem, ex_lshl, ex_lushr, ex_lcmp, ex_i2l, ex_l2i, ex_i2b, ex_iconst, ex_lconst, ex_null, ex_iload, ex_lload, ex_aload, ex_istore, ex_astore, ex_astoreN, ex_lstore, ex_iinc, ex_dup_int, ex_pop_int, ex_dup_ref, ex_pop_ref, ex_dup2l, ex_dup2ri, ex_pop2, ex_goto, ex_jsr, ex_ifnull, ex_ifnullN, ex_ifnn, ex_ifnnN, ex_calls, ex_callv, ex_ireturn, ex_zB, ex_z0, ex_z1, ex_lreturn, ex_vreturn, ex_obj, ex_icmp_eq, ex_icmp_ne, ex_icmp_lt, ex_icmp_ge, ex_icmp_gt, ex_icmp_le, ex_ifc_eq, ex_ifc_ne, ex_ifc_lt, ex_ifc_ge, ex_ifc_gt, ex_ifc_le, lget_cons0, lget_cons, lset1, lclr, isL, List.length_cons, List.length_nil, List.take, List.drop, List.take_zero, List.drop_zero, List.reverse_cons, List.reverse_nil, List.nil_append, List.cons_append, catS, Value.category, tl_some, tl_none, rf_some, rf_none, Int.toNat_natCast, Int.reduceToNat, Nat.reduceAdd, Nat.reduceLT, Nat.reduceLeDiff, Nat.reduceEqDiff, and_true, true_and, and_self, eq_self, reduceIte, false_and, and_false, Bool.false_eq_true, Bool.true_eq_false, or_true, true_or, or_false, false_or, not_true_eq_false, not_false_eq_true, ite_true, ite_false, if_true, if_false, linit, largs, List.replicate, Nat.reduceSub, Nat.sub_self, kim1000000000, kim2, kim1, ki0, ki1, ki2, ki3, ki4, ki5, ki6, ki7, ki8, ki9, ki10, ki12, ki15, ki16, ki20, ki24, ki30, ki32, ki33, ki38, ki40, ki41, ki42, ki43, ki44, ki45, ki46, ki47, ki48, ki50, ki52, ki57, ki58, ki59, ki60, ki61, ki62, ki63, ki91, ki93, ki97, ki99, ki100, ki102, ki108, ki109, ki110, ki111, ki116, ki119, ki120, ki121, ki124, ki128, ki200, ki240, ki255, ki480, ki680, ki999, ki1000, ki7776, ki252645135, ki858993459, ki1431655765, klm1000000000, klm1000000, klm1, kl0, kl1, kl2, kl3, kl4, kl5, kl12, kl60, kl99, kl999, kl1000, kl1000000, kl1000000000, kl4294967295, kl1442695040888963407, kl6364136223846793005, hK_sI, hN_sI, hI_sI, hL_sI, hR_sI, hZ_sI, hC_sI, hS_sI, hK_sL, hN_sL, hI_sL, hL_sL, hR_sL, hZ_sL, hC_sL, hS_sL, hK_sR, hN_sR, hI_sR, hL_sR, hR_sR, hZ_sR, hC_sR, hS_sR, hK_sA, hN_sA, hI_sA, hL_sA, hR_sA, hK_sLA, hN_sLA, hI_sLA, hL_sLA, hR_sLA, up2_at, vu_at, decide_true, decide_false, Bool.false_and, Bool.true_and, Bool.and_true, Bool.and_false, nI_ltN, nI_leN, nI_eqN, nI_eq0, nI_lt0N, nI_le0N, nI_gt0N, nI_le00N, nI_add, nI_mul, bB_0, bB_n, d_le, d_nle, d_lt, d_nlt, d_eq, d_ne, u_k0, u_k1, u_k4, u_k5, u_k7, u_k8, u_k11, u_k14, u_k21, u_k24, u_k33, u_k36, u_k37, u_k41, u_k45, u_k55, u_k66, u_k68, u_k70, u_k72, u_k74, b196_0, u_gI36, u_gL36, u_pL36, u_pI36, u_rf36_0, u_rf36_1, u_rf36_2, u_rf36_3, u_rf36_4, u_rf36_5, u_rf36_6, u_rf36_7, u_rf36_8, u_k36, u_k64, u_n64, u_ld64, u_st64, u_at64, u_pt64, u_rs64, u_al64]
  rw [c1]
  · simp (disch := first | (simp only [Fr_sI, Fr_sL, Fr_sA, Fr_sLA]; assumption) | assumption | decide | omega | (simp only [List.length_cons, List.length_nil, List.drop_succ_cons, List.drop_zero, catS, Value.category, Nat.reduceAdd, Nat.reduceLT, Nat.reduceLeDiff, Nat.le_refl, and_self, and_true, true_and]; done) | (simp only [hK_sI, hN_sI, hK_sL, hN_sL, hK_sR, hN_sR, hK_sA, hN_sA, hK_sLA, hN_sLA]; first | assumption | omega)) only [ex_iadd, ex_isub, ex_imul, ex_iand, ex_ior, ex_ixor, ex_ishl, ex_ishr, ex_iushr, ex_ladd, ex_lsub, ex_lmul, ex_idiv, ex_irem, ex_ldiv, ex_lrem, ex_lshl, ex_lushr, ex_lcmp, ex_i2l, ex_l2i, ex_i2b, ex_iconst, ex_lconst, ex_null, ex_iload, ex_lload, ex_aload, ex_istore, ex_astore, ex_astoreN, ex_lstore, ex_iinc, ex_dup_int, ex_pop_int, ex_dup_ref, ex_pop_ref, ex_dup2l, ex_dup2ri, ex_pop2, ex_goto, ex_jsr, ex_ifnull, ex_ifnullN, ex_ifnn, ex_ifnnN, ex_calls, ex_callv, ex_ireturn, ex_zB, ex_z0, ex_z1, ex_lreturn, ex_vreturn, ex_obj, ex_icmp_eq, ex_icmp_ne, ex_icmp_lt, ex_icmp_ge, ex_icmp_gt, ex_icmp_le, ex_ifc_eq, ex_ifc_ne, ex_ifc_lt, ex_ifc_ge, ex_ifc_gt, ex_ifc_le, lget_cons0, lget_cons, lset1, lclr, isL, List.length_cons, List.length_nil, List.take, List.drop, List.take_zero, List.drop_zero, List.reverse_cons, List.reverse_nil, List.nil_append, List.cons_append, catS, Value.category, tl_some, tl_none, rf_some, rf_none, Int.toNat_natCast, Int.reduceToNat, Nat.reduceAdd, Nat.reduceLT, Nat.reduceLeDiff, Nat.reduceEqDiff, and_true, true_and, and_self, eq_self, reduceIte, false_and, and_false, Bool.false_eq_true, Bool.true_eq_false, or_true, true_or, or_false, false_or, not_true_eq_false, not_false_eq_true, ite_true, ite_false, if_true, if_false, linit, largs, List.replicate, Nat.reduceSub, Nat.sub_self, kim1000000000, kim2, kim1, ki0, ki1, ki2, ki3, ki4, ki5, ki6, ki7, ki8, ki9, ki10, ki12, ki15, ki16, ki20, ki24, ki30, ki32, ki33, ki38, ki40, ki41, ki42, ki43, ki44, ki45, ki46, ki47, ki48, ki50, ki52, ki57, ki58, ki59, ki60, ki61, ki62, ki63, ki91, ki93, ki97, ki99, ki100, ki102, ki108, ki109, ki110, ki111, ki116, ki119, ki120, ki121, ki124, ki128, ki200, ki240, ki255, ki480, ki680, ki999, ki1000, ki7776, ki252645135, ki858993459, ki1431655765, klm1000000000, klm1000000, klm1, kl0, kl1, kl2, kl3, kl4, kl5, kl12, kl60, kl99, kl999, kl1000, kl1000000, kl1000000000, kl4294967295, kl1442695040888963407, kl6364136223846793005, hK_sI, hN_sI, hI_sI, hL_sI, hR_sI, hZ_sI, hC_sI, hS_sI, hK_sL, hN_sL, hI_sL, hL_sL, hR_sL, hZ_sL, hC_sL, hS_sL, hK_sR, hN_sR, hI_sR, hL_sR, hR_sR, hZ_sR, hC_sR, hS_sR, hK_sA, hN_sA, hI_sA, hL_sA, hR_sA, hK_sLA, hN_sLA, hI_sLA, hL_sLA, hR_sLA, up2_at, vu_at, decide_true, decide_false, Bool.false_and, Bool.true_and, Bool.and_true, Bool.and_false, nI_ltN, nI_leN, nI_eqN, nI_eq0, nI_lt0N, nI_le0N, nI_gt0N, nI_le00N, nI_add, nI_mul, bB_0, bB_n, d_le, d_nle, d_lt, d_nlt, d_eq, d_ne, u_k0, u_k1, u_k4, u_k5, u_k7, u_k8, u_k11, u_k14, u_k21, u_k24, u_k33, u_k36, u_k37, u_k41, u_k45, u_k55, u_k66, u_k68, u_k70, u_k72, u_k74, u_gI36, u_gL36, u_pL36, u_pI36, u_rf36_0, u_rf36_1, u_rf36_2, u_rf36_3, u_rf36_4, u_rf36_5, u_rf36_6, u_rf36_7, u_rf36_8, u_k36, u_k65, u_n65, u_ld65, u_st65, u_at65, u_pt65, u_rs65, u_al65]
    rw [c2]
    · simp (disch := first | (simp only [Fr_sI, Fr_sL, Fr_sA, Fr_sLA]; assumption) | assumption | decide | omega | (simp only [List.length_cons, List.length_nil, List.drop_succ_cons, List.drop_zero, catS, Value.category, Nat.reduceAdd, Nat.reduceLT, Nat.reduceLeDiff, Nat.le_refl, and_self, and_true, true_and]; done) | (simp only [hK_sI, hN_sI, hK_sL, hN_sL, hK_sR, hN_sR, hK_sA, hN_sA, hK_sLA, hN_sLA]; first | assumption | omega)) only [ex_iadd, ex_isub, ex_imul, ex_iand, ex_ior, ex_ixor, ex_ishl, ex_ishr, ex_iushr, ex_ladd, ex_lsub, ex_lmul, ex_idiv, ex_irem, ex_ldiv, ex_lrem, ex_lshl, ex_lushr, ex_lcmp, ex_i2l, ex_l2i, ex_i2b, ex_iconst, ex_lconst, ex_null, ex_iload, ex_lload, ex_aload, ex_istore, ex_astore, ex_astoreN, ex_lstore, ex_iinc, ex_dup_int, ex_pop_int, ex_dup_ref, ex_pop_ref, ex_dup2l, ex_dup2ri, ex_pop2, ex_goto, ex_jsr, ex_ifnull, ex_ifnullN, ex_ifnn, ex_ifnnN, ex_calls, ex_callv, ex_ireturn, ex_zB, ex_z0, ex_z1, ex_lreturn, ex_vreturn, ex_obj, ex_icmp_eq, ex_icmp_ne, ex_icmp_lt, ex_icmp_ge, ex_icmp_gt, ex_icmp_le, ex_ifc_eq, ex_ifc_ne, ex_ifc_lt, ex_ifc_ge, ex_ifc_gt, ex_ifc_le, lget_cons0, lget_cons, lset1, lclr, isL, List.length_cons, List.length_nil, List.take, List.drop, List.take_zero, List.drop_zero, List.reverse_cons, List.reverse_nil, List.nil_append, List.cons_append, catS, Value.category, tl_some, tl_none, rf_some, rf_none, Int.toNat_natCast, Int.reduceToNat, Nat.reduceAdd, Nat.reduceLT, Nat.reduceLeDiff, Nat.reduceEqDiff, and_true, true_and, and_self, eq_self, reduceIte, false_and, and_false, Bool.false_eq_true, Bool.true_eq_false, or_true, true_or, or_false, false_or, not_true_eq_false, not_false_eq_true, ite_true, ite_false, if_true, if_false, linit, largs, List.replicate, Nat.reduceSub, Nat.sub_self, kim1000000000, kim2, kim1, ki0, ki1, ki2, ki3, ki4, ki5, ki6, ki7, ki8, ki9, ki10, ki12, ki15, ki16, ki20, ki24, ki30, ki32, ki33, ki38, ki40, ki41, ki42, ki43, ki44, ki45, ki46, ki47, ki48, ki50, ki52, ki57, ki58, ki59, ki60, ki61, ki62, ki63, ki91, ki93, ki97, ki99, ki100, ki102, ki108, ki109, ki110, ki111, ki116, ki119, ki120, ki121, ki124, ki128, ki200, ki240, ki255, ki480, ki680, ki999, ki1000, ki7776, ki252645135, ki858993459, ki1431655765, klm1000000000, klm1000000, klm1, kl0, kl1, kl2, kl3, kl4, kl5, kl12, kl60, kl99, kl999, kl1000, kl1000000, kl1000000000, kl4294967295, kl1442695040888963407, kl6364136223846793005, hK_sI, hN_sI, hI_sI, hL_sI, hR_sI, hZ_sI, hC_sI, hS_sI, hK_sL, hN_sL, hI_sL, hL_sL, hR_sL, hZ_sL, hC_sL, hS_sL, hK_sR, hN_sR, hI_sR, hL_sR, hR_sR, hZ_sR, hC_sR, hS_sR, hK_sA, hN_sA, hI_sA, hL_sA, hR_sA, hK_sLA, hN_sLA, hI_sLA, hL_sLA, hR_sLA, up2_at, vu_at, decide_true, decide_false, Bool.false_and, Bool.true_and, Bool.and_true, Bool.and_false, nI_ltN, nI_leN, nI_eqN, nI_eq0, nI_lt0N, nI_le0N, nI_gt0N, nI_le00N, nI_add, nI_mul, bB_0, bB_n, d_le, d_nle, d_lt, d_nlt, d_eq, d_ne, u_k0, u_k1, u_k4, u_k5, u_k7, u_k8, u_k11, u_k14, u_k21, u_k24, u_k33, u_k36, u_k37, u_k41, u_k45, u_k55, u_k66, u_k68, u_k70, u_k72, u_k74, u_gI36, u_gL36, u_pL36, u_pI36, u_rf36_0, u_rf36_1, u_rf36_2, u_rf36_3, u_rf36_4, u_rf36_5, u_rf36_6, u_rf36_7, u_rf36_8, u_k36]
      refine ev_sortKinds (D := D + 10) (n := n) (cl := cl) (wt := wt) (ys := ys) (s := s) (o := o) (t := t) (to := to) ⟨f, n5, hn, hc, hw, hy⟩ hy40 ⟨rfl, rfl, rfl⟩ (by omega) (by omega) (by omega) hto hfi (mX_same hc60 hy40 t40 n5 kp) (fun h1 t2 c2 g2 w2 s1 kp2 kh2 e55 e56 => ?_)
      have s2 : Sm sAk h h1 := Sm.tr (((((((((Sm.rf sAk h).wI (a := 36) _ rfl).wI (a := 36) _ rfl).wI (a := 36) _ rfl).wL (a := 36) _ rfl).wL (a := 36) _ rfl).wI (a := 36) _ rfl).wLA (a := 64) _ (fun _ => rfl)).wLA (a := 65) _ (fun _ => rfl)) (s1.mono sAk_1)
      have f1 : Fr h1 := s2.fr f (by decide)
      have h12 := kp_12 n5 kp hw12
      have h22 := kp_12 n5 kp2 hw12
      have hbX : ∀ l f, l < n → f < 6 → mX cl n ys s o t (6 * l + f) < 50 + n := by
        intro l f hl hf
        rw [mX, show (6 * l + f) / 6 = l from by omega, show (6 * l + f) % 6 = f from by omega]
        have h1 := setN_50 (c := cl (6 * l + f)) (n := n) (y := ys l) (hc60 _ (by omega)) (hy40 l hl) n5
        unfold mnN
        repeat' split
        all_goals omega
      obtain ⟨a1, a2, a3, a4, fs, a5⟩ := kp2
      have kp2 : KP (6 * n) wt (fun c => nI (mX cl n ys s o t c)) t2 c2 g2 w2 := ⟨a1, a2, a3, a4, fs, a5⟩
      have hgn : ∀ l, l < n → ∀ k, k < c2 l → g2 l k = nI ((fun l k => (g2 l k).toNatClampNeg) l k) ∧ (fun l k => (g2 l k).toNatClampNeg) l k < 50 + n := by
        intro l hl k hk
        obtain ⟨b1, b2, b3, b4, b5⟩ := a5 l (by omega) k hk
        have b6 := (a2 l (by omega) _ b1 b2 b3).2
        rw [b4] at b6
        have b7 := hbX l _ hl b1
        dsimp only at b6 ⊢
        rw [b6, nI_clamp (by omega)]
        exact ⟨rfl, b7⟩
      have hfs : ∀ l, l < n → ∀ k, k < c2 l → fs l k < 6 ∧ wt (6 * l + fs l k) ≠ 0 ∧ t2 (6 * l + fs l k) = k := fun l hl k hk => by
        obtain ⟨b1, b2, b3, b4, b5⟩ := a5 l (by omega) k hk
        exact ⟨b1, b3, b4⟩
      have hct : CT h1 n s o t ct sg sh c2 g2 w2 (fun l k => to (6 * l + fs l k)) (fun i => TF n cl wt (fun φ g => valE ct n i (tF (loF to) φ) g)) := by
        refine ⟨f1, n5, (s2.i 37 0 rfl).trans hn, kh2, fun l hl k hk => ?_, kh.sm s2 (fun _ => rfl) (fun _ => rfl) (fun _ => rfl), fun l hl => (s2.i 51 l rfl).trans (hst l hl), fun i hi => (s2.l 53 i rfl).trans (he.1 i hi), s1.i 36 9 rfl, s1.i 36 10 rfl, s1.i 36 11 rfl⟩
        obtain ⟨b1, b2, b3, b4, b5⟩ := a5 l (by omega) k hk
        have b6 := e56 l hl _ b1 b3
        rw [b4] at b6
        exact ⟨b6, (kp.2.1 l (by omega) _ b1 b2 b3).1⟩
      have hE := ask_E (ys := ys) (s := s) (o := o) (t := t) (fs := fs) hc60 hy40 t40 n5 hw12 kp kp2 hfs
      simp (disch := first | (simp only [Fr_sI, Fr_sL, Fr_sA, Fr_sLA]; assumption) | assumption | decide | omega | (simp only [List.length_cons, List.length_nil, List.drop_succ_cons, List.drop_zero, catS, Value.category, Nat.reduceAdd, Nat.reduceLT, Nat.reduceLeDiff, Nat.le_refl, and_self, and_true, true_and]; done) | (simp only [hK_sI, hN_sI, hK_sL, hN_sL, hK_sR, hN_sR, hK_sA, hN_sA, hK_sLA, hN_sLA]; first | assumption | omega)) only [ex_iadd, ex_isub, ex_imul, ex_iand, ex_ior, ex_ixor, ex_ishl, ex_ishr, ex_iushr, ex_ladd, ex_lsub, ex_lmul, ex_idiv, ex_irem, ex_ldiv, ex_lrem, ex_lshl, ex_lushr, ex_lcmp, ex_i2l, ex_l2i, ex_i2b, ex_iconst, ex_lconst, ex_null, ex_iload, ex_lload, ex_aload, ex_istore, ex_astore, ex_astoreN, ex_lstore, ex_iinc, ex_dup_int, ex_pop_int, ex_dup_ref, ex_pop_ref, ex_dup2l, ex_dup2ri, ex_pop2, ex_goto, ex_jsr, ex_ifnull, ex_ifnullN, ex_ifnn, ex_ifnnN, ex_calls, ex_callv, ex_ireturn, ex_zB, ex_z0, ex_z1, ex_lreturn, ex_vreturn, ex_obj, ex_icmp_eq, ex_icmp_ne, ex_icmp_lt, ex_icmp_ge, ex_icmp_gt, ex_icmp_le, ex_ifc_eq, ex_ifc_ne, ex_ifc_lt, ex_ifc_ge, ex_ifc_gt, ex_ifc_le, lget_cons0, lget_cons, lset1, lclr, isL, List.length_cons, List.length_nil, List.take, List.drop, List.take_zero, List.drop_zero, List.reverse_cons, List.reverse_nil, List.nil_append, List.cons_append, catS, Value.category, tl_some, tl_none, rf_some, rf_none, Int.toNat_natCast, Int.reduceToNat, Nat.reduceAdd, Nat.reduceLT, Nat.reduceLeDiff, Nat.reduceEqDiff, and_true, true_and, and_self, eq_self, reduceIte, false_and, and_false, Bool.false_eq_true, Bool.true_eq_false, or_true, true_or, or_false, false_or, not_true_eq_false, not_false_eq_true, ite_true, ite_false, if_true, if_false, linit, largs, List.replicate, Nat.reduceSub, Nat.sub_self, kim1000000000, kim2, kim1, ki0, ki1, ki2, ki3, ki4, ki5, ki6, ki7, ki8, ki9, ki10, ki12, ki15, ki16, ki20, ki24, ki30, ki32, ki33, ki38, ki40, ki41, ki42, ki43, ki44, ki45, ki46, ki47, ki48, ki50, ki52, ki57, ki58, ki59, ki60, ki61, ki62, ki63, ki91, ki93, ki97, ki99, ki100, ki102, ki108, ki109, ki110, ki111, ki116, ki119, ki120, ki121, ki124, ki128, ki200, ki240, ki255, ki480, ki680, ki999, ki1000, ki7776, ki252645135, ki858993459, ki1431655765, klm1000000000, klm1000000, klm1, kl0, kl1, kl2, kl3, kl4, kl5, kl12, kl60, kl99, kl999, kl1000, kl1000000, kl1000000000, kl4294967295, kl1442695040888963407, kl6364136223846793005, hK_sI, hN_sI, hI_sI, hL_sI, hR_sI, hZ_sI, hC_sI, hS_sI, hK_sL, hN_sL, hI_sL, hL_sL, hR_sL, hZ_sL, hC_sL, hS_sL, hK_sR, hN_sR, hI_sR, hL_sR, hR_sR, hZ_sR, hC_sR, hS_sR, hK_sA, hN_sA, hI_sA, hL_sA, hR_sA, hK_sLA, hN_sLA, hI_sLA, hL_sLA, hR_sLA, up2_at, vu_at, decide_true, decide_false, Bool.false_and, Bool.true_and, Bool.and_true, Bool.and_false, nI_ltN, nI_leN, nI_eqN, nI_eq0, nI_lt0N, nI_le0N, nI_gt0N, nI_le00N, nI_add, nI_mul, bB_0, bB_n, d_le, d_nle, d_lt, d_nlt, d_eq, d_ne, u_k0, u_k1, u_k4, u_k5, u_k7, u_k8, u_k11, u_k14, u_k21, u_k24, u_k33, u_k36, u_k37, u_k41, u_k45, u_k55, u_k66, u_k68, u_k70, u_k72, u_k74, u_gI36, u_gL36, u_pL36, u_pI36, u_rf36_0, u_rf36_1, u_rf36_2, u_rf36_3, u_rf36_4, u_rf36_5, u_rf36_6, u_rf36_7, u_rf36_8, u_k36]
      rw [show D + 15 = (D + (5 - n)) + n + 10 from by omega]
      refine ev_clay HCs_st (cleaf_std (K := MM n k6 (wtF wt) (aiF cl n) (loF t2)) hok hgn) h12 h22 hE n 0 (by omega) _ h1 (fun _ => 0) (fun _ => 0) _ hct (fun i hi => by omega) ⟨s1.l 36 12 rfl, fun c hcc => ⟨(s1.l 64 c rfl).trans ?_, (s1.l 65 c rfl).trans ?_⟩⟩ (fun h2 s3 _ hc2 => ?_)
      · simp [hL_sLA, vu_at, wrN, hcc]
      · simp [hL_sLA, vu_at, wrN, hcc]
      · have hfo : ∀ c, foK c2 (fun κ acc c => acc c + MM n k6 (wtF wt) (aiF cl n) (loF t2) κ * vC n s (mtK n s o t (fun l k => (g2 l k).toNatClampNeg)) c κ) n 0 (fun _ => 0) (fun _ => 0) c = al k6 (wtF wt) (List.range' 0 n) (fun φ => KF n k6 (wtF wt) (aiF cl n) φ * vC n s (mtK n s o t (fun l k => (g2 l k).toNatClampNeg)) c (tF (loF t2) φ)) (fun _ => 0) := by
          intro c
          have := foK_M (n := n) (K := k6) (W := wtF wt) (A := aiF cl n) (c2 := c2) (val := vC n s (mtK n s o t (fun l k => (g2 l k).toNatClampNeg))) (lf := fun κ acc c => acc c + MM n k6 (wtF wt) (aiF cl n) (loF t2) κ * vC n s (mtK n s o t (fun l k => (g2 l k).toNatClampNeg)) c κ) (t := loF t2) (c := c) (fun _ _ => rfl) (fun l hl g hg hwg => (kp_fm n5 kp2 l hl).1 g hg hwg) (fun φ hφ κ hk => vC_congr (mtK_congr hk (fun l hl => by
            obtain ⟨z1, z2⟩ := hφ l hl (by simp)
            exact (hgn l hl _ ((kp_fm n5 kp2 l hl).1 (φ l) z1 z2)).2) on5) hk) n 0 (by omega) (fun _ => 0) (fun _ => 0)
          rw [this, Nat.zero_add]
          congr 1
          funext φ
          rw [pdN, Nat.mul_one]
        have hc3 : HCs h2 (fun c => al k6 (wtF wt) (List.range' 0 n) (fun φ => KF n k6 (wtF wt) (aiF cl n) φ * vC n s (mtK n s o t (fun l k => (g2 l k).toNatClampNeg)) c (tF (loF t2) φ)) (fun _ => 0)) :=
          ⟨hc2.1.trans (congrArg lN (hfo 0)), fun c hcc => ⟨((hc2.2 c hcc).1).trans (congrArg lN (hfo (1 + c))), ((hc2.2 c hcc).2).trans (congrArg lN (hfo (31 + c)))⟩⟩
        have f2 : Fr h2 := s3.fr f1 (by decide)
        have hm := hc3.1
        simp (disch := first | (simp only [Fr_sI, Fr_sL, Fr_sA, Fr_sLA]; assumption) | assumption | decide | omega | (simp only [List.length_cons, List.length_nil, List.drop_succ_cons, List.drop_zero, catS, Value.category, Nat.reduceAdd, Nat.reduceLT, Nat.reduceLeDiff, Nat.le_refl, and_self, and_true, true_and]; done) | (simp only [hK_sI, hN_sI, hK_sL, hN_sL, hK_sR, hN_sR, hK_sA, hN_sA, hK_sLA, hN_sLA]; first | assumption | omega)) only [ex_iadd, ex_isub, ex_imul, ex_iand, ex_ior, ex_ixor, ex_ishl, ex_ishr, ex_iushr, ex_ladd, ex_lsub, ex_lmul, ex_idiv, ex_irem, ex_ldiv, ex_lrem, ex_lshl, ex_lushr, ex_lcmp, ex_i2l, ex_l2i, ex_i2b, ex_iconst, ex_lconst, ex_null, ex_iload, ex_lload, ex_aload, ex_istore, ex_astore, ex_astoreN, ex_lstore, ex_iinc, ex_dup_int, ex_pop_int, ex_dup_ref, ex_pop_ref, ex_dup2l, ex_dup2ri, ex_pop2, ex_goto, ex_jsr, ex_ifnull, ex_ifnullN, ex_ifnn, ex_ifnnN, ex_calls, ex_callv, ex_ireturn, ex_zB, ex_z0, ex_z1, ex_lreturn, ex_vreturn, ex_obj, ex_icmp_eq, ex_icmp_ne, ex_icmp_lt, ex_icmp_ge, ex_icmp_gt, ex_icmp_le, ex_ifc_eq, ex_ifc_ne, ex_ifc_lt, ex_ifc_ge, ex_ifc_gt, ex_ifc_le, lget_cons0, lget_cons, lset1, lclr, isL, List.length_cons, List.length_nil, List.take, List.drop, List.take_zero, List.drop_zero, List.reverse_cons, List.reverse_nil, List.nil_append, List.cons_append, catS, Value.category, tl_some, tl_none, rf_some, rf_none, Int.toNat_natCast, Int.reduceToNat, Nat.reduceAdd, Nat.reduceLT, Nat.reduceLeDiff, Nat.reduceEqDiff, and_true, true_and, and_self, eq_self, reduceIte, false_and, and_false, Bool.false_eq_true, Bool.true_eq_false, or_true, true_or, or_false, false_or, not_true_eq_false, not_false_eq_true, ite_true, ite_false, if_true, if_false, linit, largs, List.replicate, Nat.reduceSub, Nat.sub_self, kim1000000000, kim2, kim1, ki0, ki1, ki2, ki3, ki4, ki5, ki6, ki7, ki8, ki9, ki10, ki12, ki15, ki16, ki20, ki24, ki30, ki32, ki33, ki38, ki40, ki41, ki42, ki43, ki44, ki45, ki46, ki47, ki48, ki50, ki52, ki57, ki58, ki59, ki60, ki61, ki62, ki63, ki91, ki93, ki97, ki99, ki100, ki102, ki108, ki109, ki110, ki111, ki116, ki119, ki120, ki121, ki124, ki128, ki200, ki240, ki255, ki480, ki680, ki999, ki1000, ki7776, ki252645135, ki858993459, ki1431655765, klm1000000000, klm1000000, klm1, kl0, kl1, kl2, kl3, kl4, kl5, kl12, kl60, kl99, kl999, kl1000, kl1000000, kl1000000000, kl4294967295, kl1442695040888963407, kl6364136223846793005, hK_sI, hN_sI, hI_sI, hL_sI, hR_sI, hZ_sI, hC_sI, hS_sI, hK_sL, hN_sL, hI_sL, hL_sL, hR_sL, hZ_sL, hC_sL, hS_sL, hK_sR, hN_sR, hI_sR, hL_sR, hR_sR, hZ_sR, hC_sR, hS_sR, hK_sA, hN_sA, hI_sA, hL_sA, hR_sA, hK_sLA, hN_sLA, hI_sLA, hL_sLA, hR_sLA, up2_at, vu_at, decide_true, decide_false, Bool.false_and, Bool.true_and, Bool.and_true, Bool.and_false, nI_ltN, nI_leN, nI_eqN, nI_eq0, nI_lt0N, nI_le0N, nI_gt0N, nI_le00N, nI_add, nI_mul, bB_0, bB_n, d_le, d_nle, d_lt, d_nlt, d_eq, d_ne, u_k0, u_k1, u_k4, u_k5, u_k7, u_k8, u_k11, u_k14, u_k21, u_k24, u_k33, u_k36, u_k37, u_k41, u_k45, u_k55, u_k66, u_k68, u_k70, u_k72, u_k74, hm, u_gI36, u_gL36, u_pL36, u_pI36, u_rf36_0, u_rf36_1, u_rf36_2, u_rf36_3, u_rf36_4, u_rf36_5, u_rf36_6, u_rf36_7, u_rf36_8, u_k36]
        have s4 : Sm sAk h h2 := s2.tr (s3.mono sAk_2)
        have hfin := hQ h2 t2 c2 g2 w2 s4 kp2 (fun c hcc => (s3.i 59 c rfl).trans (e55 c hcc)) hc3
        have a6 : a ≠ 6 := by unfold askQ at q; omega
        rw [TL_at (a := a) (fun _ => 0) (fun φ g g' => by simp only [soB, if_neg a6])] at hfin
        have hta : al k6 (wtF wt) (List.range' 0 n) (fun φ => KF n k6 (wtF wt) (aiF cl n) φ * b01 (soB cl n ys a o t e φ 0)) (fun _ => 0) = al k6 (wtF wt) (List.range' 0 n) (fun φ => KF n k6 (wtF wt) (aiF cl n) φ * b01 (mtK n s o t (fun l k => (g2 l k).toNatClampNeg) (tF (loF t2) φ))) (fun _ => 0) := by
          refine al_good (n := n) (fun φ hφ => ?_) _ _ gd_all
          congr 2
          rw [← met_so (e := e) (g := 0) q n5 hc60 hy40 (fun l hl => (hφ l hl (by simp)).1)]
          refine mtB_congr (fun l hl => (heldN_congr (fun l hl => ?_) (fun l hl => ?_) (n + 1) l hl).symm) on5
          · obtain ⟨z1, z2⟩ := hφ l hl (by simp)
            have z3 := (a2 l (by omega) (φ l) z1 (by have : φ l < 6 := z1; omega) z2).2
            have z4 := hbX l (φ l) hl z1
            show (g2 l (t2 (6 * l + φ l))).toNatClampNeg = _
            rw [z3, nI_clamp (by omega)]
          · obtain ⟨z1, z2⟩ := hφ l hl (by simp)
            have z3 := (a2 l (by omega) (φ l) z1 (by have : φ l < 6 := z1; omega) z2)
            exact (hgn l hl _ z3.1).2
        rw [hta] at hfin
        simp only [vC, if_true]
        exact hfin
    · exact f
  · exact f
end
