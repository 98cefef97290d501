/-! Same but for some cells. -/
def Sm (S : Nat → Nat → Bool) (h h1 : Hp) : Prop := hK h1 = hK h ∧ hN h1 = hN h ∧ hZ h1 = hZ h ∧ hC h1 = hC h ∧ hS h1 = hS h ∧ ∀ a j, S a j = false → hI h1 a j = hI h a j ∧ hL h1 a j = hL h a j ∧ hR h1 a j = hR h a j
section
variable {S T : Nat → Nat → Bool} {h h1 h2 : Hp}
theorem Sm.i (s : Sm S h h1) (a j : Nat) (e : S a j = false) : hI h1 a j = hI h a j := (s.2.2.2.2.2 a j e).1
theorem Sm.l (s : Sm S h h1) (a j : Nat) (e : S a j = false) : hL h1 a j = hL h a j := (s.2.2.2.2.2 a j e).2.1
theorem Sm.r (s : Sm S h h1) (a j : Nat) (e : S a j = false) : hR h1 a j = hR h a j := (s.2.2.2.2.2 a j e).2.2
theorem Sm.rf (S : Nat → Nat → Bool) (h : Hp) : Sm S h h := ⟨rfl, rfl, rfl, rfl, rfl, fun _ _ _ => ⟨rfl, rfl, rfl⟩⟩
theorem Sm.tr (s : Sm S h h1) (t : Sm S h1 h2) : Sm S h h2 := ⟨t.1.trans s.1, t.2.1.trans s.2.1, t.2.2.1.trans s.2.2.1, t.2.2.2.1.trans s.2.2.2.1, t.2.2.2.2.1.trans s.2.2.2.2.1, fun a j e => ⟨(t.i a j e).trans (s.i a j e), (t.l a j e).trans (s.l a j e), (t.r a j e).trans (s.r a j e)⟩⟩
theorem Sm.mono (s : Sm S h h1) (q : ∀ a j, T a j = false → S a j = false) : Sm T h h1 := ⟨s.1, s.2.1, s.2.2.1, s.2.2.2.1, s.2.2.2.2.1, fun a j e => s.2.2.2.2.2 a j (q a j e)⟩
theorem Sm.wI (s : Sm S h h1) {a k : Nat} (v : Int32) (e : S a k = true) : Sm S h (sI h1 a k v) := by
  refine ⟨s.1, s.2.1, s.2.2.1, s.2.2.2.1, s.2.2.2.2.1, fun b j q => ⟨?_, s.l b j q, s.r b j q⟩⟩
  rw [hI_sI, up2_at, if_neg, s.i b j q]
  rintro ⟨rfl, rfl⟩
  rw [e] at q
  cases q
theorem Sm.wL (s : Sm S h h1) {a k : Nat} (v : Int64) (e : S a k = true) : Sm S h (sL h1 a k v) := by
  refine ⟨s.1, s.2.1, s.2.2.1, s.2.2.2.1, s.2.2.2.2.1, fun b j q => ⟨s.i b j q, ?_, s.r b j q⟩⟩
  rw [hL_sL, up2_at, if_neg, s.l b j q]
  rintro ⟨rfl, rfl⟩
  rw [e] at q
  cases q
theorem Sm.wR (s : Sm S h h1) {a k : Nat} (v : Option Nat) (e : S a k = true) : Sm S h (sR h1 a k v) := by
  refine ⟨s.1, s.2.1, s.2.2.1, s.2.2.2.1, s.2.2.2.2.1, fun b j q => ⟨s.i b j q, s.l b j q, ?_⟩⟩
  rw [hR_sR, up2_at, if_neg, s.r b j q]
  rintro ⟨rfl, rfl⟩
  rw [e] at q
  cases q
theorem Sm.wA (s : Sm S h h1) {a : Nat} (f : Nat → Int32) (e : ∀ j, S a j = true) : Sm S h (sA h1 a f) := by
  refine ⟨s.1, s.2.1, s.2.2.1, s.2.2.2.1, s.2.2.2.2.1, fun b j q => ⟨?_, s.l b j q, s.r b j q⟩⟩
  rw [hI_sA, vu_at, if_neg, s.i b j q]
  rintro rfl
  rw [e] at q
  cases q
theorem Sm.wLA (s : Sm S h h1) {a : Nat} (f : Nat → Int64) (e : ∀ j, S a j = true) : Sm S h (sLA h1 a f) := by
  refine ⟨s.1, s.2.1, s.2.2.1, s.2.2.2.1, s.2.2.2.2.1, fun b j q => ⟨s.i b j q, ?_, s.r b j q⟩⟩
  rw [hL_sLA, vu_at, if_neg, s.l b j q]
  rintro rfl
  rw [e] at q
  cases q
theorem Sm.fr (s : Sm S h h1) (f : Fr h) (e : rfs.all (fun q => !S q.1 q.2.1) = true) : Fr h1 := by
  refine ⟨fun a ha => by rw [s.1, s.2.1]; exact f.1 a ha, fun q hq => ?_, by rw [s.1]; exact f.2.2⟩
  have := List.all_eq_true.mp e q hq
  rw [s.r _ _ (by simpa using this)]
  exact f.2.1 q hq
end
