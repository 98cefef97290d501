/-! Numbers of the code, the heap under writes. -/
theorem kim1000000000 : Int32.ofInt (-1000000000) = -nI 1000000000 := by decide
theorem kim2 : Int32.ofInt (-2) = -nI 2 := by decide
theorem kim1 : Int32.ofInt (-1) = -nI 1 := by decide
theorem ki0 : Int32.ofInt 0 = nI 0 := rfl
theorem ki1 : Int32.ofInt 1 = nI 1 := rfl
theorem ki2 : Int32.ofInt 2 = nI 2 := rfl
theorem ki3 : Int32.ofInt 3 = nI 3 := rfl
theorem ki4 : Int32.ofInt 4 = nI 4 := rfl
theorem ki5 : Int32.ofInt 5 = nI 5 := rfl
theorem ki6 : Int32.ofInt 6 = nI 6 := rfl
theorem ki7 : Int32.ofInt 7 = nI 7 := rfl
theorem ki8 : Int32.ofInt 8 = nI 8 := rfl
theorem ki9 : Int32.ofInt 9 = nI 9 := rfl
theorem ki10 : Int32.ofInt 10 = nI 10 := rfl
theorem ki12 : Int32.ofInt 12 = nI 12 := rfl
theorem ki15 : Int32.ofInt 15 = nI 15 := rfl
theorem ki16 : Int32.ofInt 16 = nI 16 := rfl
theorem ki20 : Int32.ofInt 20 = nI 20 := rfl
theorem ki24 : Int32.ofInt 24 = nI 24 := rfl
theorem ki30 : Int32.ofInt 30 = nI 30 := rfl
theorem ki32 : Int32.ofInt 32 = nI 32 := rfl
theorem ki33 : Int32.ofInt 33 = nI 33 := rfl
theorem ki38 : Int32.ofInt 38 = nI 38 := rfl
theorem ki40 : Int32.ofInt 40 = nI 40 := rfl
theorem ki41 : Int32.ofInt 41 = nI 41 := rfl
theorem ki42 : Int32.ofInt 42 = nI 42 := rfl
theorem ki43 : Int32.ofInt 43 = nI 43 := rfl
theorem ki44 : Int32.ofInt 44 = nI 44 := rfl
theorem ki45 : Int32.ofInt 45 = nI 45 := rfl
theorem ki46 : Int32.ofInt 46 = nI 46 := rfl
theorem ki47 : Int32.ofInt 47 = nI 47 := rfl
theorem ki48 : Int32.ofInt 48 = nI 48 := rfl
theorem ki50 : Int32.ofInt 50 = nI 50 := rfl
theorem ki52 : Int32.ofInt 52 = nI 52 := rfl
theorem ki57 : Int32.ofInt 57 = nI 57 := rfl
theorem ki58 : Int32.ofInt 58 = nI 58 := rfl
theorem ki59 : Int32.ofInt 59 = nI 59 := rfl
theorem ki60 : Int32.ofInt 60 = nI 60 := rfl
theorem ki61 : Int32.ofInt 61 = nI 61 := rfl
theorem ki62 : Int32.ofInt 62 = nI 62 := rfl
theorem ki63 : Int32.ofInt 63 = nI 63 := rfl
theorem ki91 : Int32.ofInt 91 = nI 91 := rfl
theorem ki93 : Int32.ofInt 93 = nI 93 := rfl
theorem ki97 : Int32.ofInt 97 = nI 97 := rfl
theorem ki99 : Int32.ofInt 99 = nI 99 := rfl
theorem ki100 : Int32.ofInt 100 = nI 100 := rfl
theorem ki102 : Int32.ofInt 102 = nI 102 := rfl
theorem ki108 : Int32.ofInt 108 = nI 108 := rfl
theorem ki109 : Int32.ofInt 109 = nI 109 := rfl
theorem ki110 : Int32.ofInt 110 = nI 110 := rfl
theorem ki111 : Int32.ofInt 111 = nI 111 := rfl
theorem ki116 : Int32.ofInt 116 = nI 116 := rfl
theorem ki119 : Int32.ofInt 119 = nI 119 := rfl
theorem ki120 : Int32.ofInt 120 = nI 120 := rfl
theorem ki121 : Int32.ofInt 121 = nI 121 := rfl
theorem ki124 : Int32.ofInt 124 = nI 124 := rfl
theorem ki128 : Int32.ofInt 128 = nI 128 := rfl
theorem ki200 : Int32.ofInt 200 = nI 200 := rfl
theorem ki240 : Int32.ofInt 240 = nI 240 := rfl
theorem ki255 : Int32.ofInt 255 = nI 255 := rfl
theorem ki480 : Int32.ofInt 480 = nI 480 := rfl
theorem ki680 : Int32.ofInt 680 = nI 680 := rfl
theorem ki999 : Int32.ofInt 999 = nI 999 := rfl
theorem ki1000 : Int32.ofInt 1000 = nI 1000 := rfl
theorem ki7776 : Int32.ofInt 7776 = nI 7776 := rfl
theorem ki252645135 : Int32.ofInt 252645135 = nI 252645135 := rfl
theorem ki858993459 : Int32.ofInt 858993459 = nI 858993459 := rfl
theorem ki1431655765 : Int32.ofInt 1431655765 = nI 1431655765 := rfl
theorem klm1000000000 : Int64.ofInt (-1000000000) = -lN 1000000000 := by decide
theorem klm1000000 : Int64.ofInt (-1000000) = -lN 1000000 := by decide
theorem klm1 : Int64.ofInt (-1) = -lN 1 := by decide
theorem kl0 : Int64.ofInt 0 = lN 0 := rfl
theorem kl1 : Int64.ofInt 1 = lN 1 := rfl
theorem kl2 : Int64.ofInt 2 = lN 2 := rfl
theorem kl3 : Int64.ofInt 3 = lN 3 := rfl
theorem kl4 : Int64.ofInt 4 = lN 4 := rfl
theorem kl5 : Int64.ofInt 5 = lN 5 := rfl
theorem kl12 : Int64.ofInt 12 = lN 12 := rfl
theorem kl60 : Int64.ofInt 60 = lN 60 := rfl
theorem kl99 : Int64.ofInt 99 = lN 99 := rfl
theorem kl999 : Int64.ofInt 999 = lN 999 := rfl
theorem kl1000 : Int64.ofInt 1000 = lN 1000 := rfl
theorem kl1000000 : Int64.ofInt 1000000 = lN 1000000 := rfl
theorem kl1000000000 : Int64.ofInt 1000000000 = lN 1000000000 := rfl
theorem kl4294967295 : Int64.ofInt 4294967295 = lN 4294967295 := rfl
theorem kl1442695040888963407 : Int64.ofInt 1442695040888963407 = lN 1442695040888963407 := rfl
theorem kl6364136223846793005 : Int64.ofInt 6364136223846793005 = lN 6364136223846793005 := rfl
section
variable {h : Hp} {a k : Nat} {v : Int32} {w : Int64} {r : Option Nat}
theorem hK_sI : hK (sI h a k v) = hK h := rfl
theorem hN_sI : hN (sI h a k v) = hN h := rfl
theorem hI_sI : hI (sI h a k v) = up2 (hI h) a k v := rfl
theorem hL_sI : hL (sI h a k v) = hL h := rfl
theorem hR_sI : hR (sI h a k v) = hR h := rfl
theorem hZ_sI : hZ (sI h a k v) = hZ h := rfl
theorem hC_sI : hC (sI h a k v) = hC h := rfl
theorem hS_sI : hS (sI h a k v) = hS h := rfl
theorem hK_sL : hK (sL h a k w) = hK h := rfl
theorem hN_sL : hN (sL h a k w) = hN h := rfl
theorem hI_sL : hI (sL h a k w) = hI h := rfl
theorem hL_sL : hL (sL h a k w) = up2 (hL h) a k w := rfl
theorem hR_sL : hR (sL h a k w) = hR h := rfl
theorem hZ_sL : hZ (sL h a k w) = hZ h := rfl
theorem hC_sL : hC (sL h a k w) = hC h := rfl
theorem hS_sL : hS (sL h a k w) = hS h := rfl
theorem hK_sR : hK (sR h a k r) = hK h := rfl
theorem hN_sR : hN (sR h a k r) = hN h := rfl
theorem hI_sR : hI (sR h a k r) = hI h := rfl
theorem hL_sR : hL (sR h a k r) = hL h := rfl
theorem hR_sR : hR (sR h a k r) = up2 (hR h) a k r := rfl
theorem hZ_sR : hZ (sR h a k r) = hZ h := rfl
theorem hC_sR : hC (sR h a k r) = hC h := rfl
theorem hS_sR : hS (sR h a k r) = hS h := rfl
end
theorem up2_at {α : Type} (f : Nat → Nat → α) (a k : Nat) (v : α) (b j : Nat) : up2 f a k v b j = if b = a ∧ j = k then v else f b j := rfl
theorem rf_some (a : Nat) : va_rf (some a) = .ref a := rfl
theorem rf_none : va_rf none = .null := rfl
theorem tl_some (v : Value) : (some v).toList = [v] := rfl
theorem tl_none : (none : Option Value).toList = [] := rfl
theorem nI_sub {a b : Nat} (h : b ≤ a) : nI a - nI b = nI (a - b) := pk_sub h
theorem nI_mul (a b : Nat) : nI a * nI b = nI (a * b) := pk_mul a b
theorem nI_rem {a d : Nat} (ha : a < 2 ^ 31) (h0 : 0 < d) (hd : d < 2 ^ 31) : nI a - nI a / nI d * nI d = nI (a % d) := pk_rem ha h0 hd
theorem nI_div {a d : Nat} (ha : a < 2 ^ 31) (h0 : 0 < d) (hd : d < 2 ^ 31) : nI a / nI d = nI (a / d) := pk_div ha h0 hd
theorem nI_lt0 {a : Nat} (ha : a < 2 ^ 31) : (nI a < 0) = False := by simp [nI_pos ha]
theorem nI_le0 {a : Nat} (ha : a < 2 ^ 31) : (0 ≤ nI a) = True := by simp [nI_pos' ha]
theorem nI_ofNat (n : Nat) : Int32.ofNat n = nI n := rfl
/-- an int that isn't below 0 -/
theorem nI_get {x : Int32} (h : ¬ x < 0) : ∃ j : Nat, j < 2 ^ 31 ∧ x = nI j := nI_of h
theorem nI_get2 {x : Int32} {n : Nat} (h : ¬ x < 0) (h2 : x < nI n) (hn : n < 2 ^ 31) : ∃ j : Nat, j < n ∧ x = nI j := by
  obtain ⟨j, hj, rfl⟩ := nI_of h
  exact ⟨j, (nI_ltI hj hn).mp h2, rfl⟩

/-- a boolean as an int -/
def bB (b : Bool) : Int32 := if b = true then nI 1 else nI 0
theorem bB_0 (b : Bool) : (bB b = 0) = (b = false) := by cases b <;> decide
theorem bB_n (b : Bool) : (¬ bB b = 0) = (b = true) := by cases b <;> decide
theorem bB_t : bB true = nI 1 := rfl
theorem bB_f : bB false = nI 0 := rfl
theorem bB_01 (b : Bool) : bB b = 0 ∨ bB b = 1 := by cases b <;> decide
section
variable {sc : Option (Nat × (Nat → Int32))} {D k : Nat} {is : List XI} {ls : LL} {st : List Value} {h : Hp} {Q : Option Value → Hp → Prop}
theorem ex_zB {b : Bool} : Ex sc D k ((.ireturn, 1) :: is) ls [.int (bB b)] h Q = Q (some (.int (bB b))) h := ex_zreturn (bB_01 b)
theorem ex_z0 : Ex sc D k ((.ireturn, 1) :: is) ls [.int (nI 0)] h Q = Q (some (.int (bB false))) h := ex_zB (b := false)
theorem ex_z1 : Ex sc D k ((.ireturn, 1) :: is) ls [.int (nI 1)] h Q = Q (some (.int (bB true))) h := ex_zB (b := true)
end
section
variable {sc : Option (Nat × (Nat → Int32))} {D k : Nat} {is : List XI} {ls : LL} {st : List Value} {h : Hp} {Q : Option Value → Hp → Prop} {z a j : Nat}
theorem ex_ialdN (hk : hK h a = 20) (hj : j < hN h a) (hb : hN h a < 2147483648) : Ex sc D k ((.iaload, z) :: is) ls (.int (nI j) :: .ref a :: st) h Q = Ex sc D k is ls (.int (hI h a j) :: st) h Q := by
  rw [ex_iald hk (vp_in_nI hj (by omega)), nI_clamp (by omega)]
theorem ex_baldB (hk : hK h a = 21) (hj : j < hN h a) (hb : hN h a < 2147483648) : Ex sc D k ((.baload, z) :: is) ls (.int (nI j) :: .ref a :: st) h Q = Ex sc D k is ls (.int (hI h a j) :: st) h Q := by
  rw [ex_bald (Or.inl hk) (vp_in_nI hj (by omega)), nI_clamp (by omega)]
theorem ex_baldZ (hk : hK h a = 22) (hj : j < hN h a) (hb : hN h a < 2147483648) : Ex sc D k ((.baload, z) :: is) ls (.int (nI j) :: .ref a :: st) h Q = Ex sc D k is ls (.int (hI h a j) :: st) h Q := by
  rw [ex_bald (Or.inr hk) (vp_in_nI hj (by omega)), nI_clamp (by omega)]
theorem ex_laldN (hk : hK h a = 23) (hj : j < hN h a) (hb : hN h a < 2147483648) : Ex sc D k ((.laload, z) :: is) ls (.int (nI j) :: .ref a :: st) h Q = Ex sc D k is ls (.long (hL h a j) :: st) h Q := by
  rw [ex_lald hk (vp_in_nI hj (by omega)), nI_clamp (by omega)]
theorem ex_aaldN (hk : hK h a = 24) (hj : j < hN h a) (hb : hN h a < 2147483648) : Ex sc D k ((.aaload, z) :: is) ls (.int (nI j) :: .ref a :: st) h Q = Ex sc D k is ls (va_rf (hR h a j) :: st) h Q := by
  rw [ex_aald hk (vp_in_nI hj (by omega)), nI_clamp (by omega)]
theorem ex_iastN {v : Int32} (hk : hK h a = 20) (hj : j < hN h a) (hb : hN h a < 2147483648) : Ex sc D k ((.iastore, z) :: is) ls (.int v :: .int (nI j) :: .ref a :: st) h Q = Ex sc D k is ls st (sI h a j v) Q := by
  rw [ex_iast hk (vp_in_nI hj (by omega)), nI_clamp (by omega)]
theorem ex_lastN {v : Int64} (hk : hK h a = 23) (hj : j < hN h a) (hb : hN h a < 2147483648) : Ex sc D k ((.lastore, z) :: is) ls (.long v :: .int (nI j) :: .ref a :: st) h Q = Ex sc D k is ls st (sL h a j v) Q := by
  rw [ex_last hk (vp_in_nI hj (by omega)), nI_clamp (by omega)]
theorem ex_bastBN {v : Int32} (hk : hK h a = 21) (hj : j < hN h a) (hb : hN h a < 2147483648) : Ex sc D k ((.bastore, z) :: is) ls (.int v :: .int (nI j) :: .ref a :: st) h Q = Ex sc D k is ls st (sI h a j (vp_nar .byte v)) Q := by
  rw [ex_bastB hk (vp_in_nI hj (by omega)), nI_clamp (by omega)]
theorem ex_bastZ0 (hk : hK h a = 22) (hj : j < hN h a) (hb : hN h a < 2147483648) : Ex sc D k ((.bastore, z) :: is) ls (.int (nI 0) :: .int (nI j) :: .ref a :: st) h Q = Ex sc D k is ls st (sI h a j (nI 0)) Q := by
  rw [ex_bastZ hk (vp_in_nI hj (by omega)), nI_clamp (by omega), show vp_nar .boolean (nI 0) = nI 0 from by decide]
theorem ex_bastZ1 (hk : hK h a = 22) (hj : j < hN h a) (hb : hN h a < 2147483648) : Ex sc D k ((.bastore, z) :: is) ls (.int (nI 1) :: .int (nI j) :: .ref a :: st) h Q = Ex sc D k is ls st (sI h a j (nI 1)) Q := by
  rw [ex_bastZ hk (vp_in_nI hj (by omega)), nI_clamp (by omega), show vp_nar .boolean (nI 1) = nI 1 from by decide]
theorem ex_bastZB {b : Bool} (hk : hK h a = 22) (hj : j < hN h a) (hb : hN h a < 2147483648) : Ex sc D k ((.bastore, z) :: is) ls (.int (bB b) :: .int (nI j) :: .ref a :: st) h Q = Ex sc D k is ls st (sI h a j (bB b)) Q := by
  rw [ex_bastZ hk (vp_in_nI hj (by omega)), nI_clamp (by omega), show vp_nar .boolean (bB b) = bB b from by cases b <;> decide]
theorem ex_alenN (hk : 20 ≤ hK h a ∧ hK h a ≤ 24) : Ex sc D k ((.arraylength, z) :: is) ls (.ref a :: st) h Q = Ex sc D k is ls (.int (nI (hN h a)) :: st) h Q := ex_alen hk
theorem ex_putZ0 {ci : Nat} (hk : hK h a = ci + 1) : Ex sc D k ((.ret ci, z) :: is) ls (.int (nI 0) :: .ref a :: st) h Q = Ex sc D k is ls st (sI h a z (nI 0)) Q := ex_putZ hk (by decide)
theorem ex_putZ1 {ci : Nat} (hk : hK h a = ci + 1) : Ex sc D k ((.ret ci, z) :: is) ls (.int (nI 1) :: .ref a :: st) h Q = Ex sc D k is ls st (sI h a z (nI 1)) Q := ex_putZ hk (by decide)
theorem ex_putZB {ci : Nat} {b : Bool} (hk : hK h a = ci + 1) : Ex sc D k ((.ret ci, z) :: is) ls (.int (bB b) :: .ref a :: st) h Q = Ex sc D k is ls st (sI h a z (bB b)) Q := ex_putZ hk (bB_01 b)
end
theorem nI_ltN {a b : Nat} (ha : a < 2147483648) (hb : b < 2147483648) : (nI a < nI b) = (a < b) := propext (nI_ltI ha hb)
theorem nI_leN {a b : Nat} (ha : a < 2147483648) (hb : b < 2147483648) : (nI a ≤ nI b) = (a ≤ b) := propext (nI_leI ha hb)
theorem nI_eqN {a b : Nat} (ha : a < 2147483648) (hb : b < 2147483648) : (nI a = nI b) = (a = b) := propext (nI_eq ha hb)
theorem nI_eq0 {a : Nat} (ha : a < 2147483648) : (nI a = 0) = (a = 0) := by
  rw [show (0 : Int32) = nI 0 from rfl, nI_eqN ha (by omega)]
theorem nI_lt0N {a : Nat} (ha : a < 2147483648) : (nI a < 0) = False := nI_lt0 ha
theorem nI_le0N {a : Nat} (ha : a < 2147483648) : (0 ≤ nI a) = True := nI_le0 ha
theorem nI_gt0N {a : Nat} (ha : a < 2147483648) : (0 < nI a) = (0 < a) := by
  rw [show (0 : Int32) = nI 0 from rfl, nI_ltN (by omega) ha]
theorem nI_le00N {a : Nat} (ha : a < 2147483648) : (nI a ≤ 0) = (a = 0) := by
  rw [show (0 : Int32) = nI 0 from rfl, nI_leN ha (by omega)]
  simp
theorem d_le {a b : Nat} (h : a ≤ b) : (a ≤ b) = True := eq_true h
theorem d_nle {a b : Nat} (h : b < a) : (a ≤ b) = False := eq_false (by omega)
theorem d_lt {a b : Nat} (h : a < b) : (a < b) = True := eq_true h
theorem d_nlt {a b : Nat} (h : b ≤ a) : (a < b) = False := eq_false (by omega)
theorem d_eq {a b : Nat} (h : a = b) : (a = b) = True := eq_true h
theorem d_ne {a b : Nat} (h : ¬ a = b) : (a = b) = False := eq_false h
theorem ite_bb {p : Prop} [Decidable p] {Q : Int32 → Prop} : (if p then Q (bB true) else Q (bB false)) = Q (bB (decide p)) := by
  by_cases h : p <;> simp [h]
